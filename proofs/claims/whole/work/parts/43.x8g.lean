theorem hdX8_sign : yX8_sign.cls = RX8 ∧ yX8_sign.cls ≠ "java/lang/invoke/MethodHandle" ∧ yX8_sign.cls ≠ "java/lang/invoke/VarHandle" ∧ (parseMethodDescriptor yX8_sign.desc).map (fun d => d.parameters.length) = some 0 := by decide +kernel
set_option maxHeartbeats 4000000 in
set_option maxRecDepth 100000 in
theorem kX8_sign (ln : Launch) (dg : va_G) (tq : ClassId × ClassId) (m0 ms mw mt su pt td wy : Nat) (xs : Int32) (T : Row) (tl : Nat) (hT : TOK T tl) (at_ : Nat) (hat : at_ ≤ 100) : MR ln yX8_sign wsX8_sign (rmm 0 0) dg tq [.ref m0] [(m0, .inr (8, [.ref ms, .ref mw, .int xs, .ref mt, .int (nI tl), .int (nI at_), .ref su, .ref pt, .ref td, .ref wy])), (mt, .inl (tq.2, 100, .inl T))] (fun r => r = (iI (sg T tl at_))) := by
  refine MR.enter cX8_sign 1 .int (by decide) rfl rfl (Nat.le_of_ble_eq_true rfl) ?_
  intro pP eE sS mM aA bB mT cC QQ AA hA hAT hret H locs hP hS ls hl
  obtain ⟨hx, hb, hml, hown, hts, hK, hN⟩ := hAT
  have hown : sS.vm.findClass RX8 = some mM.cls := hown
  have hl : lv_has ls 1 [(0, .ref m0)] := hl
  have in8 : ∀ w ∈ u_ws RX8 TX8 10, w ∈ wsX8_sign := (fun _ h9 => List.mem_cons_of_mem _ (List.mem_append_right _ h9))
  have f114 := hts (.fieldLink RX8 114 "OrphanChainModel" "at" "I") (List.mem_of_getElem? (i := 1) rfl)
  have f111 := hts (.fieldLink RX8 111 "OrphanChainModel" "typed" "I") (List.mem_of_getElem? (i := 2) rfl)
  have f16 := hts (.fieldLink RX8 16 "OrphanChainModel" "text" "[C") (List.mem_of_getElem? (i := 3) rfl)
  have htl := hT.1
  refine lv_aload_n hx hb dX8_sign_0 rfl (lv_at hl 0 rfl) ?_
  refine va_get (D := dg) (ci := 8) (v := .int (nI at_)) (C := RX8) (T := TX8) (N := 10) hx hb hts in8 hown hK hP 0 rfl rfl 5 (by decide) f114 (fun _ h9 => h9) rfl dX8_sign_1 ?_
  refine lv_aload_n hx hb dX8_sign_4 rfl (lv_at hl 0 rfl) ?_
  refine va_get (D := dg) (ci := 8) (v := .int (nI tl)) (C := RX8) (T := TX8) (N := 10) hx hb hts in8 hown hK hP 0 rfl rfl 4 (by decide) f111 (fun _ h9 => h9) rfl dX8_sign_5 ?_
  refine r_icmp_ge (tgt := 23) hx hb (nI_tI (by omega)) (nI_tI (by omega)) dX8_sign_8 (by decide) (fun c8 => ?_) (fun c8 => ?_)
  · skip
    refine lv_iconst (v := (iI (-1))) hx hb dX8_sign_23 (by decide) ?_
    exact hret (iI (-1)) H locs _ ls (by rw [sg_ge (by omega)]) rfl hS dX8_sign_24
  · skip
    refine lv_aload_n hx hb dX8_sign_11 rfl (lv_at hl 0 rfl) ?_
    refine va_get (D := dg) (ci := 8) (v := .ref mt) (C := RX8) (T := TX8) (N := 10) hx hb hts in8 hown hK hP 0 rfl rfl 3 (by decide) f16 (fun _ h9 => h9) rfl dX8_sign_12 ?_
    refine lv_aload_n hx hb dX8_sign_15 rfl (lv_at hl 0 rfl) ?_
    refine va_get (D := dg) (ci := 8) (v := .int (nI at_)) (C := RX8) (T := TX8) (N := 10) hx hb hts in8 hown hK hP 0 rfl rfl 5 (by decide) f114 (fun _ h9 => h9) rfl dX8_sign_16 ?_
    refine r_cald_n hx hb hK hP 1 rfl (k := at_) (by omega) (by omega) dX8_sign_19 ?_
    refine r_top (show (T at_) = (nI (chr T at_)) from (hT.2 at_ (by omega)).1) ?_
    refine lv_goto (tgt := 24) hx hb dX8_sign_20 (by decide) ?_
    exact hret (nI (chr T at_)) H locs _ ls (by rw [sg_lt (by omega)]; exact nI_iI _) rfl hS dX8_sign_24
theorem hdX8_number : yX8_number.cls = RX8 ∧ yX8_number.cls ≠ "java/lang/invoke/MethodHandle" ∧ yX8_number.cls ≠ "java/lang/invoke/VarHandle" ∧ (parseMethodDescriptor yX8_number.desc).map (fun d => d.parameters.length) = some 0 := by decide +kernel
set_option maxHeartbeats 4000000 in
set_option maxRecDepth 100000 in
theorem kX8_number (ln : Launch) (dg : va_G) (tq : ClassId × ClassId) (m0 ms mw mt su pt td wy : Nat) (xs : Int32) (T : Row) (tl : Nat) (hT : TOK T tl) (i0 : Nat) (hi0 : i0 ≤ tl) : MW ln yX8_number wsX8_number (rmm 1 22) dg tq [.ref m0] [(m0, .inr (8, [.ref ms, .ref mw, .int xs, .ref mt, .int (nI tl), .int (nI i0), .ref su, .ref pt, .ref td, .ref wy])), (mt, .inl (tq.2, 100, .inl T))] (fun (r : Int32) (u : Unit) => r = (iI (nmR T tl i0))) (fun u => [(m0, .inr (8, [.ref ms, .ref mw, .int xs, .ref mt, .int (nI tl), .int (nI (nmJ T (tl - i0) i0 0 0)), .ref su, .ref pt, .ref td, .ref wy])), (mt, .inl (tq.2, 100, .inl T))]) := by
  refine MW.enter cX8_number 3 .int (by decide) rfl rfl (Nat.le_of_ble_eq_true rfl) ?_
  intro pP eE sS mM aA bB mT cC QQ AA hA hAT hret H locs hP hD hS ls hl
  obtain ⟨hx, hb, hml, hown, hts, hK, hN⟩ := hAT
  have hown : sS.vm.findClass RX8 = some mM.cls := hown
  have hl : lv_has ls 3 [(0, .ref m0)] := hl
  have in8 : ∀ w ∈ u_ws RX8 TX8 10, w ∈ wsX8_number := (fun _ h9 => List.mem_cons_of_mem _ (List.mem_append_right _ h9))
  have f114 := hts (.fieldLink RX8 114 "OrphanChainModel" "at" "I") (List.mem_of_getElem? (i := 1) rfl)
  have htl := hT.1
  refine lv_aload_n hx hb dX8_number_0 rfl (lv_at hl 0 rfl) ?_
  refine va_get (D := dg) (ci := 8) (v := .int (nI i0)) (C := RX8) (T := TX8) (N := 10) hx hb hts in8 hown hK hP 0 rfl rfl 5 (by decide) f114 (fun _ h9 => h9) rfl dX8_number_1 ?_
  refine lv_istore_n (lv' := [(1, .int (nI i0)), (0, .ref m0)]) hx hb dX8_number_4 rfl hl (by decide) rfl (fun ls hl => ?_)
  refine lv_iconst (v := (nI 0)) hx hb dX8_number_5 (by decide) ?_
  refine lv_istore_n (lv' := [(2, .int (nI 0)), (1, .int (nI i0)), (0, .ref m0)]) hx hb dX8_number_6 rfl hl (by decide) rfl (fun ls hl => ?_)
  have loop7 : ∀ (fu : Nat) (i_ : Nat) (v_ : Nat) (H : Heap) (locs : List Loc) (ls : Array Slot), (i_ ≤ tl ∧ i0 ≤ i_ ∧ vOK (i_ - i0) v_ ∧ nmJ T (tl - i0) i0 0 0 = nmJ T (tl - i_) i_ (i_ - i0) v_ ∧ nmV T (tl - i0) i0 0 0 = nmV T (tl - i_) i_ (i_ - i0) v_) → tl - i_ < fu → va_P dg vwCl [(m0, .inr (8, [.ref ms, .ref mw, .int xs, .ref mt, .int (nI tl), .int (nI i_), .ref su, .ref pt, .ref td, .ref wy])), (mt, .inl (tq.2, 100, .inl T))] H → va_D AA [(m0, .inr (8, [.ref ms, .ref mw, .int xs, .ref mt, .int (nI tl), .int (nI i_), .ref su, .ref pt, .ref td, .ref wy])), (mt, .inl (tq.2, 100, .inl T))] → va_S AA sS.heap H locs → lv_has ls 3 [(0, .ref m0), (1, .int (nI i0)), (2, .int (nI v_))] → W pP ln eE (rmm 1 22) sS mM aA bB mT cC H locs 0 0 QQ (F0 mM 7 ls []) := by
    intro fu
    induction fu with
    | zero => intro i_ v_ H locs ls _ hm; exact absurd hm (Nat.not_lt_zero _)
    | succ fu ih7 =>
      intro i_ v_ H locs ls hinv hm hP hD hS hl
      obtain ⟨hi1, hi2, hi3, hi4, hi5⟩ := hinv
      have hsb := sg_b hT i_
      have hvk := vOK_lt hi3
      refine lv_aload_n hx hb dX8_number_7 rfl (lv_at hl 0 rfl) ?_
      refine call_x (va_runV (As := []) (rest := []) ⟨hx, hb, hml, hown, hts⟩ (kX8_sign ln dg tq (m0 := m0) (ms := ms) (mw := mw) (mt := mt) (su := su) (pt := pt) (td := td) (wy := wy) (xs := xs) (T := T) (tl := tl) (hT := hT) (at_ := i_) (hat := (by omega)) H.size) (cwV 0 hts gX8_number_X8_sign rfl rfl rfl hdX8_sign ⟨Nat.le_of_ble_eq_true rfl, Nat.le_of_ble_eq_true rfl⟩) (preVR hK hN hP [0, 1] rfl 0 rfl rfl []) rfl rfl hl.1 rfl (lv_room (Nat.le_of_ble_eq_true rfl)) dX8_number_8 ⟨Nat.le_refl _, Nat.le_refl _⟩) hP hS hA (fun H locs hP hS => ?_)
      refine lv_bipush (v := (nI 48)) hx hb dX8_number_11 (by decide) ?_
      refine lv_bipush (v := (nI 57)) hx hb dX8_number_13 (by decide) ?_
      refine call_x (va_runS (As := [.int (iI (sg T tl i_)), .int (nI 48), .int (nI 57)]) (rest := []) ⟨hx, hb, hml, hown, hts⟩ (kX8_in ln dg tq (v := (iI (sg T tl i_))) (lo := (nI 48)) (hi := (nI 57)) H.size) (va_cwS 3 hts gX8_number_X8_in rfl rfl rfl hdX8_in.2 ⟨Nat.le_of_ble_eq_true rfl, Nat.le_of_ble_eq_true rfl⟩) (preS0 hK hN [.int (iI (sg T tl i_)), .int (nI 48), .int (nI 57)]) rfl rfl hl.1 rfl (lv_room (Nat.le_of_ble_eq_true rfl)) dX8_number_15 ⟨Nat.le_refl _, Nat.le_refl _⟩) hP hS hA (fun H locs hP hS => ?_)
      refine r_if_eq_b (tgt := 69) hx hb dX8_number_18 (by decide) (fun c18 => ?_) (fun c18 => ?_)
      · skip
        have hno := nm_no (T := T) (tl := tl) (i := i_) (d := i_ - i0) (v := v_) (fun z => sg_f hT c18 ⟨z.1, z.2.1⟩)
        have hj : i_ = nmJ T (tl - i0) i0 0 0 := by rw [hi4, hno.1]
        have hv : v_ = nmV T (tl - i0) i0 0 0 := by rw [hi5, hno.2]
        have hle := nm_le (T := T) hi0
        have hvl := nmV_lt T tl i0
        have ew : (nI i_) = (nI (nmJ T (tl - i0) i0 0 0)) := by rw [← hj]
        have hP : va_P dg vwCl [(m0, .inr (8, [.ref ms, .ref mw, .int xs, .ref mt, .int (nI tl), .int (nI (nmJ T (tl - i0) i0 0 0)), .ref su, .ref pt, .ref td, .ref wy])), (mt, .inl (tq.2, 100, .inl T))] H := by rw [← ew]; exact hP
        have hD : va_D AA [(m0, .inr (8, [.ref ms, .ref mw, .int xs, .ref mt, .int (nI tl), .int (nI (nmJ T (tl - i0) i0 0 0)), .ref su, .ref pt, .ref td, .ref wy])), (mt, .inl (tq.2, 100, .inl T))] := by rw [← ew]; exact hD
        have hl : lv_has ls 3 [(0, .ref m0), (1, .int (nI i0)), (2, .int (nI (nmV T (tl - i0) i0 0 0)))] := by have el : (nI v_) = (nI (nmV T (tl - i0) i0 0 0)) := (by rw [← hv]); rw [← el]; exact hl
        refine lv_aload_n hx hb dX8_number_69 rfl (lv_at hl 0 rfl) ?_
        refine va_get (D := dg) (ci := 8) (v := .int (nI (nmJ T (tl - i0) i0 0 0))) (C := RX8) (T := TX8) (N := 10) hx hb hts in8 hown hK hP 0 rfl rfl 5 (by decide) f114 (fun _ h9 => h9) rfl dX8_number_70 ?_
        refine lv_iload_n hx hb dX8_number_73 rfl (lv_at hl 1 rfl) ?_
        refine r_icmp_ne (tgt := 81) hx hb (nI_tI (by omega)) (nI_tI (by omega)) dX8_number_74 (by decide) (fun c74 => ?_) (fun c74 => ?_)
        · skip
          refine lv_iload_n hx hb dX8_number_81 rfl (lv_at hl 2 rfl) ?_
          exact hret (nI (nmV T (tl - i0) i0 0 0)) (()) H locs _ ls (by unfold nmR; rw [if_neg (by omega)]; exact nI_iI _) rfl (hP.sub [0, 1] rfl) (hD.sub [0, 1] (by decide) rfl) hS dX8_number_82
        · skip
          refine lv_iconst (v := (iI (-1))) hx hb dX8_number_77 (by decide) ?_
          refine lv_goto (tgt := 82) hx hb dX8_number_78 (by decide) ?_
          exact hret (iI (-1)) (()) H locs _ ls (by unfold nmR; rw [if_pos (by omega)]) rfl (hP.sub [0, 1] rfl) (hD.sub [0, 1] (by decide) rfl) hS dX8_number_82
      · skip
        obtain ⟨hit, h48, h57⟩ := sg_t hT c18
        refine lv_aload_n hx hb dX8_number_21 rfl (lv_at hl 0 rfl) ?_
        refine va_get (D := dg) (ci := 8) (v := .int (nI i_)) (C := RX8) (T := TX8) (N := 10) hx hb hts in8 hown hK hP 0 rfl rfl 5 (by decide) f114 (fun _ h9 => h9) rfl dX8_number_22 ?_
        refine lv_iload_n hx hb dX8_number_25 rfl (lv_at hl 1 rfl) ?_
        refine lv_iconst (v := (nI 4)) hx hb dX8_number_26 (by decide) ?_
        refine r_iadd_n hx hb dX8_number_27 ?_
        refine r_icmp_ge (tgt := 69) hx hb (nI_tI (by omega)) (nI_tI (by omega)) dX8_number_28 (by decide) (fun c28 => ?_) (fun c28 => ?_)
        · skip
          have hno := nm_no (T := T) (tl := tl) (i := i_) (d := i_ - i0) (v := v_) (fun z => by omega)
          have hj : i_ = nmJ T (tl - i0) i0 0 0 := by rw [hi4, hno.1]
          have hv : v_ = nmV T (tl - i0) i0 0 0 := by rw [hi5, hno.2]
          have hle := nm_le (T := T) hi0
          have hvl := nmV_lt T tl i0
          have ew : (nI i_) = (nI (nmJ T (tl - i0) i0 0 0)) := by rw [← hj]
          have hP : va_P dg vwCl [(m0, .inr (8, [.ref ms, .ref mw, .int xs, .ref mt, .int (nI tl), .int (nI (nmJ T (tl - i0) i0 0 0)), .ref su, .ref pt, .ref td, .ref wy])), (mt, .inl (tq.2, 100, .inl T))] H := by rw [← ew]; exact hP
          have hD : va_D AA [(m0, .inr (8, [.ref ms, .ref mw, .int xs, .ref mt, .int (nI tl), .int (nI (nmJ T (tl - i0) i0 0 0)), .ref su, .ref pt, .ref td, .ref wy])), (mt, .inl (tq.2, 100, .inl T))] := by rw [← ew]; exact hD
          have hl : lv_has ls 3 [(0, .ref m0), (1, .int (nI i0)), (2, .int (nI (nmV T (tl - i0) i0 0 0)))] := by have el : (nI v_) = (nI (nmV T (tl - i0) i0 0 0)) := (by rw [← hv]); rw [← el]; exact hl
          refine lv_aload_n hx hb dX8_number_69 rfl (lv_at hl 0 rfl) ?_
          refine va_get (D := dg) (ci := 8) (v := .int (nI (nmJ T (tl - i0) i0 0 0))) (C := RX8) (T := TX8) (N := 10) hx hb hts in8 hown hK hP 0 rfl rfl 5 (by decide) f114 (fun _ h9 => h9) rfl dX8_number_70 ?_
          refine lv_iload_n hx hb dX8_number_73 rfl (lv_at hl 1 rfl) ?_
          refine r_icmp_ne (tgt := 81) hx hb (nI_tI (by omega)) (nI_tI (by omega)) dX8_number_74 (by decide) (fun c74 => ?_) (fun c74 => ?_)
          · skip
            refine lv_iload_n hx hb dX8_number_81 rfl (lv_at hl 2 rfl) ?_
            exact hret (nI (nmV T (tl - i0) i0 0 0)) (()) H locs _ ls (by unfold nmR; rw [if_neg (by omega)]; exact nI_iI _) rfl (hP.sub [0, 1] rfl) (hD.sub [0, 1] (by decide) rfl) hS dX8_number_82
          · skip
            refine lv_iconst (v := (iI (-1))) hx hb dX8_number_77 (by decide) ?_
            refine lv_goto (tgt := 82) hx hb dX8_number_78 (by decide) ?_
            exact hret (iI (-1)) (()) H locs _ ls (by unfold nmR; rw [if_pos (by omega)]) rfl (hP.sub [0, 1] rfl) (hD.sub [0, 1] (by decide) rfl) hS dX8_number_82
        · skip
          refine lv_aload_n hx hb dX8_number_31 rfl (lv_at hl 0 rfl) ?_
          refine va_get (D := dg) (ci := 8) (v := .int (nI i_)) (C := RX8) (T := TX8) (N := 10) hx hb hts in8 hown hK hP 0 rfl rfl 5 (by decide) f114 (fun _ h9 => h9) rfl dX8_number_32 ?_
          refine lv_iload_n hx hb dX8_number_35 rfl (lv_at hl 1 rfl) ?_
          refine r_icmp_le (tgt := 43) hx hb (nI_tI (by omega)) (nI_tI (by omega)) dX8_number_36 (by decide) (fun c36 => ?_) (fun c36 => ?_)
          · skip
            have hdv : i_ - i0 = 0 ∨ (i_ - i0 < 4 ∧ v_ ≠ 0) := Or.inl (by omega)
            refine lv_bipush (v := (nI 10)) hx hb dX8_number_43 (by decide) ?_
            refine lv_iload_n hx hb dX8_number_45 rfl (lv_at hl 2 rfl) ?_
            refine r_imul_n hx hb dX8_number_46 ?_
            refine lv_aload_n hx hb dX8_number_47 rfl (lv_at hl 0 rfl) ?_
            refine call_x (va_runV (As := []) (rest := [.int (nI (10 * v_))]) ⟨hx, hb, hml, hown, hts⟩ (kX8_sign ln dg tq (m0 := m0) (ms := ms) (mw := mw) (mt := mt) (su := su) (pt := pt) (td := td) (wy := wy) (xs := xs) (T := T) (tl := tl) (hT := hT) (at_ := i_) (hat := (by omega)) H.size) (cwV 0 hts gX8_number_X8_sign rfl rfl rfl hdX8_sign ⟨Nat.le_of_ble_eq_true rfl, Nat.le_of_ble_eq_true rfl⟩) (preVR hK hN hP [0, 1] rfl 0 rfl rfl []) rfl rfl hl.1 rfl (lv_room (Nat.le_of_ble_eq_true rfl)) dX8_number_48 ⟨Nat.le_refl _, Nat.le_refl _⟩) hP hS hA (fun H locs hP hS => ?_)
            refine r_top (show (iI (sg T tl i_)) = (nI (chr T i_)) from by rw [sg_lt hit]; exact (nI_iI _).symm) ?_
            refine r_iadd_n hx hb dX8_number_51 ?_
            refine lv_bipush (v := (nI 48)) hx hb dX8_number_52 (by decide) ?_
            refine r_isub_n hx hb (by omega) dX8_number_54 ?_
            refine r_top (show (nI (((10 * v_) + (chr T i_)) - 48)) = (nI (v_ * 10 + (chr T i_ - 48))) from congrArg nI (by omega)) ?_
            refine lv_istore_n (lv' := [(2, .int (nI (v_ * 10 + (chr T i_ - 48)))), (0, .ref m0), (1, .int (nI i0))]) hx hb dX8_number_55 rfl hl (by decide) rfl (fun ls hl => ?_)
            refine lv_aload_n hx hb dX8_number_56 rfl (lv_at hl 1 rfl) ?_
            refine lv_dup hx hb dX8_number_57 rfl ?_
            refine va_get (D := dg) (ci := 8) (v := .int (nI i_)) (C := RX8) (T := TX8) (N := 10) hx hb hts in8 hown hK hP 0 rfl rfl 5 (by decide) f114 (fun _ h9 => h9) rfl dX8_number_58 ?_
            refine lv_iconst (v := (nI 1)) hx hb dX8_number_61 (by decide) ?_
            refine r_iadd_n hx hb dX8_number_62 ?_
            refine va_put (D := dg) (ci := 8) (v := .int (nI (i_ + 1))) (ty := .int) (C := RX8) (T := TX8) (N := 10) hx hb hts in8 tyX8 tyX8_ok nmX8 hown hK hP hD hS 0 rfl rfl 5 (by decide) f114 (fun _ h9 => h9) rfl (by decide +kernel) rfl rfl (Nat.le_of_ble_eq_true rfl) dX8_number_63 (fun H locs hP hD hS => ?_)
            have hP : va_P dg vwCl [(m0, .inr (8, [.ref ms, .ref mw, .int xs, .ref mt, .int (nI tl), .int (nI (i_ + 1)), .ref su, .ref pt, .ref td, .ref wy])), (mt, .inl (tq.2, 100, .inl T))] H := hP
            have hD : va_D AA [(m0, .inr (8, [.ref ms, .ref mw, .int xs, .ref mt, .int (nI tl), .int (nI (i_ + 1)), .ref su, .ref pt, .ref td, .ref wy])), (mt, .inl (tq.2, 100, .inl T))] := hD
            refine lv_goto (tgt := 7) hx hb dX8_number_66 (by decide) ?_
            exact ih7 (i_ + 1) (v_ * 10 + (chr T i_ - 48)) H locs ls (⟨by omega, by omega, by rw [show i_ + 1 - i0 = (i_ - i0) + 1 by omega]; exact vOK_s hi3 (nd8t ⟨h48, h57⟩ hdv), by rw [hi4, (nm_yes hit ⟨h48, h57⟩ hdv).1, show i_ + 1 - i0 = (i_ - i0) + 1 by omega], by rw [hi5, (nm_yes hit ⟨h48, h57⟩ hdv).2, show i_ + 1 - i0 = (i_ - i0) + 1 by omega]⟩) (by omega) (hP.sub [0, 1] rfl) (hD.sub [0, 1] (by decide) rfl) hS (lv_sub hl [1, 2, 0] rfl)
          · skip
            refine lv_iload_n hx hb dX8_number_39 rfl (lv_at hl 2 rfl) ?_
            refine r_if_eq (tgt := 69) hx hb (nI_tI (by omega)) dX8_number_40 (by decide) (fun c40 => ?_) (fun c40 => ?_)
            · skip
              have hno := nm_no (T := T) (tl := tl) (i := i_) (d := i_ - i0) (v := v_) (fun z => by omega)
              have hj : i_ = nmJ T (tl - i0) i0 0 0 := by rw [hi4, hno.1]
              have hv : v_ = nmV T (tl - i0) i0 0 0 := by rw [hi5, hno.2]
              have hle := nm_le (T := T) hi0
              have hvl := nmV_lt T tl i0
              have ew : (nI i_) = (nI (nmJ T (tl - i0) i0 0 0)) := by rw [← hj]
              have hP : va_P dg vwCl [(m0, .inr (8, [.ref ms, .ref mw, .int xs, .ref mt, .int (nI tl), .int (nI (nmJ T (tl - i0) i0 0 0)), .ref su, .ref pt, .ref td, .ref wy])), (mt, .inl (tq.2, 100, .inl T))] H := by rw [← ew]; exact hP
              have hD : va_D AA [(m0, .inr (8, [.ref ms, .ref mw, .int xs, .ref mt, .int (nI tl), .int (nI (nmJ T (tl - i0) i0 0 0)), .ref su, .ref pt, .ref td, .ref wy])), (mt, .inl (tq.2, 100, .inl T))] := by rw [← ew]; exact hD
              have hl : lv_has ls 3 [(0, .ref m0), (1, .int (nI i0)), (2, .int (nI (nmV T (tl - i0) i0 0 0)))] := by have el : (nI v_) = (nI (nmV T (tl - i0) i0 0 0)) := (by rw [← hv]); rw [← el]; exact hl
              refine lv_aload_n hx hb dX8_number_69 rfl (lv_at hl 0 rfl) ?_
              refine va_get (D := dg) (ci := 8) (v := .int (nI (nmJ T (tl - i0) i0 0 0))) (C := RX8) (T := TX8) (N := 10) hx hb hts in8 hown hK hP 0 rfl rfl 5 (by decide) f114 (fun _ h9 => h9) rfl dX8_number_70 ?_
              refine lv_iload_n hx hb dX8_number_73 rfl (lv_at hl 1 rfl) ?_
              refine r_icmp_ne (tgt := 81) hx hb (nI_tI (by omega)) (nI_tI (by omega)) dX8_number_74 (by decide) (fun c74 => ?_) (fun c74 => ?_)
              · skip
                refine lv_iload_n hx hb dX8_number_81 rfl (lv_at hl 2 rfl) ?_
                exact hret (nI (nmV T (tl - i0) i0 0 0)) (()) H locs _ ls (by unfold nmR; rw [if_neg (by omega)]; exact nI_iI _) rfl (hP.sub [0, 1] rfl) (hD.sub [0, 1] (by decide) rfl) hS dX8_number_82
              · skip
                refine lv_iconst (v := (iI (-1))) hx hb dX8_number_77 (by decide) ?_
                refine lv_goto (tgt := 82) hx hb dX8_number_78 (by decide) ?_
                exact hret (iI (-1)) (()) H locs _ ls (by unfold nmR; rw [if_pos (by omega)]) rfl (hP.sub [0, 1] rfl) (hD.sub [0, 1] (by decide) rfl) hS dX8_number_82
            · skip
              have hdv : i_ - i0 = 0 ∨ (i_ - i0 < 4 ∧ v_ ≠ 0) := Or.inr ⟨by omega, by omega⟩
              refine lv_bipush (v := (nI 10)) hx hb dX8_number_43 (by decide) ?_
              refine lv_iload_n hx hb dX8_number_45 rfl (lv_at hl 2 rfl) ?_
              refine r_imul_n hx hb dX8_number_46 ?_
              refine lv_aload_n hx hb dX8_number_47 rfl (lv_at hl 0 rfl) ?_
              refine call_x (va_runV (As := []) (rest := [.int (nI (10 * v_))]) ⟨hx, hb, hml, hown, hts⟩ (kX8_sign ln dg tq (m0 := m0) (ms := ms) (mw := mw) (mt := mt) (su := su) (pt := pt) (td := td) (wy := wy) (xs := xs) (T := T) (tl := tl) (hT := hT) (at_ := i_) (hat := (by omega)) H.size) (cwV 0 hts gX8_number_X8_sign rfl rfl rfl hdX8_sign ⟨Nat.le_of_ble_eq_true rfl, Nat.le_of_ble_eq_true rfl⟩) (preVR hK hN hP [0, 1] rfl 0 rfl rfl []) rfl rfl hl.1 rfl (lv_room (Nat.le_of_ble_eq_true rfl)) dX8_number_48 ⟨Nat.le_refl _, Nat.le_refl _⟩) hP hS hA (fun H locs hP hS => ?_)
              refine r_top (show (iI (sg T tl i_)) = (nI (chr T i_)) from by rw [sg_lt hit]; exact (nI_iI _).symm) ?_
              refine r_iadd_n hx hb dX8_number_51 ?_
              refine lv_bipush (v := (nI 48)) hx hb dX8_number_52 (by decide) ?_
              refine r_isub_n hx hb (by omega) dX8_number_54 ?_
              refine r_top (show (nI (((10 * v_) + (chr T i_)) - 48)) = (nI (v_ * 10 + (chr T i_ - 48))) from congrArg nI (by omega)) ?_
              refine lv_istore_n (lv' := [(2, .int (nI (v_ * 10 + (chr T i_ - 48)))), (0, .ref m0), (1, .int (nI i0))]) hx hb dX8_number_55 rfl hl (by decide) rfl (fun ls hl => ?_)
              refine lv_aload_n hx hb dX8_number_56 rfl (lv_at hl 1 rfl) ?_
              refine lv_dup hx hb dX8_number_57 rfl ?_
              refine va_get (D := dg) (ci := 8) (v := .int (nI i_)) (C := RX8) (T := TX8) (N := 10) hx hb hts in8 hown hK hP 0 rfl rfl 5 (by decide) f114 (fun _ h9 => h9) rfl dX8_number_58 ?_
              refine lv_iconst (v := (nI 1)) hx hb dX8_number_61 (by decide) ?_
              refine r_iadd_n hx hb dX8_number_62 ?_
              refine va_put (D := dg) (ci := 8) (v := .int (nI (i_ + 1))) (ty := .int) (C := RX8) (T := TX8) (N := 10) hx hb hts in8 tyX8 tyX8_ok nmX8 hown hK hP hD hS 0 rfl rfl 5 (by decide) f114 (fun _ h9 => h9) rfl (by decide +kernel) rfl rfl (Nat.le_of_ble_eq_true rfl) dX8_number_63 (fun H locs hP hD hS => ?_)
              have hP : va_P dg vwCl [(m0, .inr (8, [.ref ms, .ref mw, .int xs, .ref mt, .int (nI tl), .int (nI (i_ + 1)), .ref su, .ref pt, .ref td, .ref wy])), (mt, .inl (tq.2, 100, .inl T))] H := hP
              have hD : va_D AA [(m0, .inr (8, [.ref ms, .ref mw, .int xs, .ref mt, .int (nI tl), .int (nI (i_ + 1)), .ref su, .ref pt, .ref td, .ref wy])), (mt, .inl (tq.2, 100, .inl T))] := hD
              refine lv_goto (tgt := 7) hx hb dX8_number_66 (by decide) ?_
              exact ih7 (i_ + 1) (v_ * 10 + (chr T i_ - 48)) H locs ls (⟨by omega, by omega, by rw [show i_ + 1 - i0 = (i_ - i0) + 1 by omega]; exact vOK_s hi3 (nd8t ⟨h48, h57⟩ hdv), by rw [hi4, (nm_yes hit ⟨h48, h57⟩ hdv).1, show i_ + 1 - i0 = (i_ - i0) + 1 by omega], by rw [hi5, (nm_yes hit ⟨h48, h57⟩ hdv).2, show i_ + 1 - i0 = (i_ - i0) + 1 by omega]⟩) (by omega) (hP.sub [0, 1] rfl) (hD.sub [0, 1] (by decide) rfl) hS (lv_sub hl [1, 2, 0] rfl)
  exact loop7 _ i0 0 H locs ls (⟨by omega, by omega, by rw [Nat.sub_self]; exact vOK_0, by rw [Nat.sub_self], by rw [Nat.sub_self]⟩) (Nat.lt_succ_self _) (hP.sub [0, 1] rfl) (hD.sub [0, 1] (by decide) rfl) hS (lv_sub hl [2, 1, 0] rfl)
theorem hdX8_reads : yX8_reads.cls = RX8 ∧ yX8_reads.cls ≠ "java/lang/invoke/MethodHandle" ∧ yX8_reads.cls ≠ "java/lang/invoke/VarHandle" ∧ (parseMethodDescriptor yX8_reads.desc).map (fun d => d.parameters.length) = some 0 := by decide +kernel
set_option maxHeartbeats 4000000 in
set_option maxRecDepth 100000 in
theorem kX8_reads (ln : Launch) (dg : va_G) (tq : ClassId × ClassId) (m0 ms mw mt su pt td wy : Nat) (xs xa : Int32) (T tt : Row) (tl : Nat) (hT : TOK T tl) : MW ln yX8_reads wsX8_reads (rmm 2 44) dg tq [.ref m0] [(m0, .inr (8, [.ref ms, .ref mw, .int xs, .ref mt, .int (nI tl), .int xa, .ref su, .ref pt, .ref td, .ref wy])), (mt, .inl (tq.2, 100, .inl T)), (td, .inl (tq.1, 52, .inl tt))] (fun (r : Int32) (u : Nat × Row) => r = (iI (rdR T tl)) ∧ ((p0 T tl = iI (-1) → pS T tl ≤ 51 ∧ ∀ x, x < pS T tl → u.2 x = nI (pN T tl x)) ∧ (¬ p0 T tl = iI (-1) → p0 T tl = nI u.1 ∧ u.1 ≤ 100))) (fun u => [(m0, .inr (8, [.ref ms, .ref mw, .int xs, .ref mt, .int (nI tl), .int (nI u.1), .ref su, .ref pt, .ref td, .ref wy])), (mt, .inl (tq.2, 100, .inl T)), (td, .inl (tq.1, 52, .inl u.2))]) := by
  refine MW.enter cX8_reads 4 .int (by decide) rfl rfl (Nat.le_of_ble_eq_true rfl) ?_
  intro pP eE sS mM aA bB mT cC QQ AA hA hAT hret H locs hP hD hS ls hl
  obtain ⟨hx, hb, hml, hown, hts, hK, hN⟩ := hAT
  have hown : sS.vm.findClass RX8 = some mM.cls := hown
  have hl : lv_has ls 4 [(0, .ref m0)] := hl
  have in8 : ∀ w ∈ u_ws RX8 TX8 10, w ∈ wsX8_reads := (fun _ h9 => List.mem_cons_of_mem _ (List.mem_append_right _ h9))
  have f114 := hts (.fieldLink RX8 114 "OrphanChainModel" "at" "I") (List.mem_of_getElem? (i := 1) rfl)
  have f111 := hts (.fieldLink RX8 111 "OrphanChainModel" "typed" "I") (List.mem_of_getElem? (i := 3) rfl)
  have f26 := hts (.fieldLink RX8 26 "OrphanChainModel" "told" "[I") (List.mem_of_getElem? (i := 2) rfl)
  have htl := hT.1
  refine lv_aload_n hx hb dX8_reads_0 rfl (lv_at hl 0 rfl) ?_
  refine lv_iconst (v := (nI 0)) hx hb dX8_reads_1 (by decide) ?_
  refine va_put (D := dg) (ci := 8) (v := .int (nI 0)) (ty := .int) (C := RX8) (T := TX8) (N := 10) hx hb hts in8 tyX8 tyX8_ok nmX8 hown hK hP hD hS 0 rfl rfl 5 (by decide) f114 (fun _ h9 => h9) rfl (by decide +kernel) rfl rfl (Nat.le_of_ble_eq_true rfl) dX8_reads_2 (fun H locs hP hD hS => ?_)
  have hP : va_P dg vwCl [(m0, .inr (8, [.ref ms, .ref mw, .int xs, .ref mt, .int (nI tl), .int (nI 0), .ref su, .ref pt, .ref td, .ref wy])), (mt, .inl (tq.2, 100, .inl T)), (td, .inl (tq.1, 52, .inl tt))] H := hP
  have hD : va_D AA [(m0, .inr (8, [.ref ms, .ref mw, .int xs, .ref mt, .int (nI tl), .int (nI 0), .ref su, .ref pt, .ref td, .ref wy])), (mt, .inl (tq.2, 100, .inl T)), (td, .inl (tq.1, 52, .inl tt))] := hD
  refine lv_iconst (v := (nI 0)) hx hb dX8_reads_5 (by decide) ?_
  refine lv_istore_n (lv' := [(1, .int (nI 0)), (0, .ref m0)]) hx hb dX8_reads_6 rfl hl (by decide) rfl (fun ls hl => ?_)
  refine lv_iconst (v := (nI 1)) hx hb dX8_reads_7 (by decide) ?_
  refine lv_istore_n (lv' := [(2, .int (nI 1)), (1, .int (nI 0)), (0, .ref m0)]) hx hb dX8_reads_8 rfl hl (by decide) rfl (fun ls hl => ?_)
  have loop9 : ∀ (fu : Nat) (i_ : Nat) (n_ : Nat) (f_ : Nat) (t_ : Row) (H : Heap) (locs : List Loc) (ls : Array Slot), ((f_ = 1 ∧ RI1 T tl i_ n_ t_) ∨ (f_ = 0 ∧ RI0 T tl i_ n_ t_)) → (tl + 1 - i_) * f_ < fu → va_P dg vwCl [(m0, .inr (8, [.ref ms, .ref mw, .int xs, .ref mt, .int (nI tl), .int (nI i_), .ref su, .ref pt, .ref td, .ref wy])), (mt, .inl (tq.2, 100, .inl T)), (td, .inl (tq.1, 52, .inl t_))] H → va_D AA [(m0, .inr (8, [.ref ms, .ref mw, .int xs, .ref mt, .int (nI tl), .int (nI i_), .ref su, .ref pt, .ref td, .ref wy])), (mt, .inl (tq.2, 100, .inl T)), (td, .inl (tq.1, 52, .inl t_))] → va_S AA sS.heap H locs → lv_has ls 4 [(0, .ref m0), (1, .int (nI n_)), (2, .int (nI f_))] → W pP ln eE (rmm 2 44) sS mM aA bB mT cC H locs 0 0 QQ (F0 mM 9 ls []) := by
    intro fu
    induction fu with
    | zero => intro i_ n_ f_ t_ H locs ls _ hm; exact absurd hm (Nat.not_lt_zero _)
    | succ fu ih9 =>
      intro i_ n_ f_ t_ H locs ls hinv hm hP hD hS hl
      have hb5 : f_ ≤ 1 := by rcases hinv with ⟨h, -⟩ | ⟨h, -⟩ <;> omega
      refine lv_iload_n hx hb dX8_reads_9 rfl (lv_at hl 2 rfl) ?_
      refine r_if_eq (tgt := 88) hx hb (nI_tI (by omega)) dX8_reads_10 (by decide) (fun c10 => ?_) (fun c10 => ?_)
      · skip
        obtain ⟨hf, hI⟩ : f_ = 0 ∧ RI0 T tl i_ n_ t_ := by rcases hinv with h | h; (exfalso; omega); (exact h)
        obtain ⟨hi1, hi2, hi3, hi4⟩ := hI
        refine lv_aload_n hx hb dX8_reads_88 rfl (lv_at hl 0 rfl) ?_
        refine va_get (D := dg) (ci := 8) (v := .int (nI i_)) (C := RX8) (T := TX8) (N := 10) hx hb hts in8 hown hK hP 0 rfl rfl 5 (by decide) f114 (fun _ h9 => h9) rfl dX8_reads_89 ?_
        refine lv_aload_n hx hb dX8_reads_92 rfl (lv_at hl 0 rfl) ?_
        refine va_get (D := dg) (ci := 8) (v := .int (nI tl)) (C := RX8) (T := TX8) (N := 10) hx hb hts in8 hown hK hP 0 rfl rfl 4 (by decide) f111 (fun _ h9 => h9) rfl dX8_reads_93 ?_
        refine r_icmp_ge (tgt := 103) hx hb (nI_tI (by omega)) (nI_tI (by omega)) dX8_reads_96 (by decide) (fun c96 => ?_) (fun c96 => ?_)
        · skip
          refine lv_iload_n hx hb dX8_reads_103 rfl (lv_at hl 1 rfl) ?_
          exact hret (nI n_) (i_, t_) H locs _ ls (show (nI n_) = (iI (rdR T tl)) ∧ ((p0 T tl = iI (-1) → pS T tl ≤ 51 ∧ ∀ x, x < pS T tl → t_ x = nI (pN T tl x)) ∧ (¬ p0 T tl = iI (-1) → p0 T tl = nI i_ ∧ i_ ≤ 100)) from (have e0 := hi4 (by omega); ⟨by unfold rdR; rw [if_pos e0.1, e0.2.1]; exact nI_iI _, fun _ => ⟨by omega, by rw [e0.2.1]; exact e0.2.2⟩, fun z => absurd e0.1 z⟩)) rfl (hP.sub [0, 1, 2] rfl) (hD.sub [0, 1, 2] (by decide) rfl) hS dX8_reads_104
        · skip
          refine lv_iconst (v := (iI (-1))) hx hb dX8_reads_99 (by decide) ?_
          refine lv_goto (tgt := 104) hx hb dX8_reads_100 (by decide) ?_
          exact hret (iI (-1)) (i_, t_) H locs _ ls (show (iI (-1)) = (iI (rdR T tl)) ∧ ((p0 T tl = iI (-1) → pS T tl ≤ 51 ∧ ∀ x, x < pS T tl → t_ x = nI (pN T tl x)) ∧ (¬ p0 T tl = iI (-1) → p0 T tl = nI i_ ∧ i_ ≤ 100)) from (have e0 := hi3 (by omega); have e1 : ¬ p0 T tl = iI (-1) := (by rw [e0]; exact nI_m18 (by omega)); ⟨by unfold rdR; rw [if_neg e1], fun z => absurd z e1, fun _ => ⟨e0, by omega⟩⟩)) rfl (hP.sub [0, 1, 2] rfl) (hD.sub [0, 1, 2] (by decide) rfl) hS dX8_reads_104
      · skip
        obtain ⟨hf, hI⟩ : f_ = 1 ∧ RI1 T tl i_ n_ t_ := by rcases hinv with h | h; (exact h); (exfalso; omega)
        have hi1 := hI.1
        have hi2 := hI.2.1
        have hle := nm_le (T := T) hi2
        have hvl := nmV_lt T tl i_
        have hsb := sg_b hT (nmJ T (tl - i_) i_ 0 0)
        have hnr : nmR T tl i_ = -1 ∧ nmJ T (tl - i_) i_ 0 0 = i_ ∨ nmR T tl i_ = ((nmV T (tl - i_) i_ 0 0 : Nat) : Int) ∧ ¬ nmJ T (tl - i_) i_ 0 0 = i_ := by unfold nmR; by_cases q : nmJ T (tl - i_) i_ 0 0 = i_; (rw [if_pos q]; exact Or.inl ⟨rfl, q⟩); (rw [if_neg q]; exact Or.inr ⟨rfl, q⟩)
        refine lv_aload_n hx hb dX8_reads_13 rfl (lv_at hl 0 rfl) ?_
        refine call_w (wr := [(td, .inl (tq.1, 52, .inl t_))]) (va_runV (As := []) (rest := []) ⟨hx, hb, hml, hown, hts⟩ (kX8_number ln dg tq (m0 := m0) (ms := ms) (mw := mw) (mt := mt) (su := su) (pt := pt) (td := td) (wy := wy) (xs := xs) (T := T) (tl := tl) (hT := hT) (i0 := i_) (hi0 := (by omega)) H.size) (cwV 0 hts gX8_reads_X8_number rfl rfl rfl hdX8_number ⟨Nat.le_of_ble_eq_true rfl, Nat.le_of_ble_eq_true rfl⟩) (preVB hK hN hP hD [0, 1] rfl rfl rfl 0 rfl rfl []) rfl rfl hl.1 rfl (lv_room (Nat.le_of_ble_eq_true rfl)) dX8_reads_14 ⟨Nat.le_refl _, Nat.le_refl _⟩) hP hD hS hA [0, 1] [2] rfl rfl (by decide) (by decide) (fun r14 u14 H locs hw14 hP hD hS => ?_)
        have hP : va_P dg vwCl [(td, .inl (tq.1, 52, .inl t_)), (m0, .inr (8, [.ref ms, .ref mw, .int xs, .ref mt, .int (nI tl), .int (nI (nmJ T (tl - i_) i_ 0 0)), .ref su, .ref pt, .ref td, .ref wy])), (mt, .inl (tq.2, 100, .inl T))] H := hP
        have hD : va_D AA [(td, .inl (tq.1, 52, .inl t_)), (m0, .inr (8, [.ref ms, .ref mw, .int xs, .ref mt, .int (nI tl), .int (nI (nmJ T (tl - i_) i_ 0 0)), .ref su, .ref pt, .ref td, .ref wy])), (mt, .inl (tq.2, 100, .inl T))] := hD
        subst hw14
        refine lv_istore_n (lv' := [(3, .int (iI (nmR T tl i_))), (0, .ref m0), (1, .int (nI n_)), (2, .int (nI f_))]) hx hb dX8_reads_17 rfl hl (by decide) rfl (fun ls hl => ?_)
        refine lv_iload_n hx hb dX8_reads_18 rfl (lv_at hl 0 rfl) ?_
        refine r_if_lt (tgt := 35) hx hb (iI_toInt (by omega) (by omega)) dX8_reads_19 (by decide) (fun c19 => ?_) (fun c19 => ?_)
        · skip
          refine lv_iconst (v := (iI (-1))) hx hb dX8_reads_35 (by decide) ?_
          exact hret (iI (-1)) ((nmJ T (tl - i_) i_ 0 0), t_) H locs _ ls (show (iI (-1)) = (iI (rdR T tl)) ∧ ((p0 T tl = iI (-1) → pS T tl ≤ 51 ∧ ∀ x, x < pS T tl → t_ x = nI (pN T tl x)) ∧ (¬ p0 T tl = iI (-1) → p0 T tl = nI (nmJ T (tl - i_) i_ 0 0) ∧ (nmJ T (tl - i_) i_ 0 0) ≤ 100)) from (have e0 := RI_bad1 hI (by omega); have e1 : ¬ p0 T tl = iI (-1) := (by rw [e0]; exact nI_m18 (by omega)); ⟨by unfold rdR; rw [if_neg e1], fun z => absurd z e1, fun _ => ⟨by rw [e0]; congr 1; omega, by omega⟩⟩)) rfl (hP.sub [1, 2, 0] rfl) (hD.sub [1, 2, 0] (by decide) rfl) hS dX8_reads_36
        · skip
          have hij : i_ < nmJ T (tl - i_) i_ 0 0 := by omega
          have hl : lv_has ls 4 [(3, .int (nI (nmV T (tl - i_) i_ 0 0))), (0, .ref m0), (1, .int (nI n_)), (2, .int (nI f_))] := by have el : (iI (nmR T tl i_)) = (nI (nmV T (tl - i_) i_ 0 0)) := (iI_n (by omega)); rw [← el]; exact hl
          refine lv_iload_n hx hb dX8_reads_22 rfl (lv_at hl 2 rfl) ?_
          refine r_if_ne (tgt := 37) hx hb (nI_tI (by omega)) dX8_reads_23 (by decide) (fun c23 => ?_) (fun c23 => ?_)
          · skip
            refine lv_aload_n hx hb dX8_reads_37 rfl (lv_at hl 1 rfl) ?_
            refine va_get (D := dg) (ci := 8) (v := .ref td) (C := RX8) (T := TX8) (N := 10) hx hb hts in8 hown hK hP 1 rfl rfl 8 (by decide) f26 (fun _ h9 => h9) rfl dX8_reads_38 ?_
            refine lv_iload_n hx hb dX8_reads_41 rfl (lv_at hl 2 rfl) ?_
            refine lv_iload_n hx hb dX8_reads_42 rfl (lv_at hl 0 rfl) ?_
            refine r_iast_n hx hb hK hP hD hS 0 rfl (k := n_) (by omega) (by omega) dX8_reads_43 (fun H locs hP hD hS => ?_)
            have hP : va_P dg vwCl [(td, .inl (tq.1, 52, .inl (upd t_ n_ (nI (nmV T (tl - i_) i_ 0 0))))), (m0, .inr (8, [.ref ms, .ref mw, .int xs, .ref mt, .int (nI tl), .int (nI (nmJ T (tl - i_) i_ 0 0)), .ref su, .ref pt, .ref td, .ref wy])), (mt, .inl (tq.2, 100, .inl T))] H := hP
            have hD : va_D AA [(td, .inl (tq.1, 52, .inl (upd t_ n_ (nI (nmV T (tl - i_) i_ 0 0))))), (m0, .inr (8, [.ref ms, .ref mw, .int xs, .ref mt, .int (nI tl), .int (nI (nmJ T (tl - i_) i_ 0 0)), .ref su, .ref pt, .ref td, .ref wy])), (mt, .inl (tq.2, 100, .inl T))] := hD
            refine lv_iinc (v := (nI (n_ + 1))) (lv' := [(1, .int (nI (n_ + 1))), (3, .int (nI (nmV T (tl - i_) i_ 0 0))), (0, .ref m0), (2, .int (nI f_))]) hx hb dX8_reads_44 hl (k := 2) rfl (nI_add _ _) (by decide) rfl (fun ls hl => ?_)
            refine lv_iload_n hx hb dX8_reads_47 rfl (lv_at hl 0 rfl) ?_
            refine lv_iconst (v := (nI 1)) hx hb dX8_reads_48 (by decide) ?_
            refine r_icmp_eq (tgt := 61) hx hb (nI_tI (by omega)) (nI_tI (by omega)) dX8_reads_49 (by decide) (fun c49 => False.elim (by omega)) (fun c49 => ?_)
            refine lv_aload_n hx hb dX8_reads_52 rfl (lv_at hl 2 rfl) ?_
            refine call_x (va_runV (As := []) (rest := []) ⟨hx, hb, hml, hown, hts⟩ (kX8_sign ln dg tq (m0 := m0) (ms := ms) (mw := mw) (mt := mt) (su := su) (pt := pt) (td := td) (wy := wy) (xs := xs) (T := T) (tl := tl) (hT := hT) (at_ := nmJ T (tl - i_) i_ 0 0) (hat := (by omega)) H.size) (cwV 0 hts gX8_reads_X8_sign rfl rfl rfl hdX8_sign ⟨Nat.le_of_ble_eq_true rfl, Nat.le_of_ble_eq_true rfl⟩) (preVR hK hN hP [1, 2] rfl 1 rfl rfl []) rfl rfl hl.1 rfl (lv_room (Nat.le_of_ble_eq_true rfl)) dX8_reads_53 ⟨Nat.le_refl _, Nat.le_refl _⟩) hP hS hA (fun H locs hP hS => ?_)
            refine lv_bipush (v := (nI 44)) hx hb dX8_reads_56 (by decide) ?_
            refine r_icmp_ne (tgt := 65) hx hb (iI_toInt (by omega) (by omega)) (nI_tI (by omega)) dX8_reads_58 (by decide) (fun c58 => ?_) (fun c58 => ?_)
            · skip
              refine lv_iconst (v := (nI 0)) hx hb dX8_reads_65 (by decide) ?_
              refine lv_istore_n (lv' := [(2, .int (nI 0)), (1, .int (nI (n_ + 1))), (3, .int (nI (nmV T (tl - i_) i_ 0 0))), (0, .ref m0)]) hx hb dX8_reads_66 rfl hl (by decide) rfl (fun ls hl => ?_)
              refine lv_aload_n hx hb dX8_reads_67 rfl (lv_at hl 3 rfl) ?_
              refine lv_dup hx hb dX8_reads_68 rfl ?_
              refine va_get (D := dg) (ci := 8) (v := .int (nI (nmJ T (tl - i_) i_ 0 0))) (C := RX8) (T := TX8) (N := 10) hx hb hts in8 hown hK hP 1 rfl rfl 5 (by decide) f114 (fun _ h9 => h9) rfl dX8_reads_69 ?_
              refine lv_iload_n hx hb dX8_reads_72 rfl (lv_at hl 0 rfl) ?_
              refine r_if_eq (tgt := 80) hx hb (nI_tI (by omega)) dX8_reads_73 (by decide) (fun c73 => ?_) (fun c73 => False.elim (by omega))
              refine lv_iconst (v := (nI 0)) hx hb dX8_reads_80 (by decide) ?_
              refine r_iadd_n hx hb dX8_reads_81 ?_
              refine va_put (D := dg) (ci := 8) (v := .int (nI ((nmJ T (tl - i_) i_ 0 0) + 0))) (ty := .int) (C := RX8) (T := TX8) (N := 10) hx hb hts in8 tyX8 tyX8_ok nmX8 hown hK hP hD hS 1 rfl rfl 5 (by decide) f114 (fun _ h9 => h9) rfl (by decide +kernel) rfl rfl (Nat.le_of_ble_eq_true rfl) dX8_reads_82 (fun H locs hP hD hS => ?_)
              have hP : va_P dg vwCl [(td, .inl (tq.1, 52, .inl (upd t_ n_ (nI (nmV T (tl - i_) i_ 0 0))))), (m0, .inr (8, [.ref ms, .ref mw, .int xs, .ref mt, .int (nI tl), .int (nI ((nmJ T (tl - i_) i_ 0 0) + 0)), .ref su, .ref pt, .ref td, .ref wy])), (mt, .inl (tq.2, 100, .inl T))] H := hP
              have hD : va_D AA [(td, .inl (tq.1, 52, .inl (upd t_ n_ (nI (nmV T (tl - i_) i_ 0 0))))), (m0, .inr (8, [.ref ms, .ref mw, .int xs, .ref mt, .int (nI tl), .int (nI ((nmJ T (tl - i_) i_ 0 0) + 0)), .ref su, .ref pt, .ref td, .ref wy])), (mt, .inl (tq.2, 100, .inl T))] := hD
              refine lv_goto (tgt := 9) hx hb dX8_reads_85 (by decide) ?_
              exact ih9 ((nmJ T (tl - i_) i_ 0 0) + 0) (n_ + 1) 0 (upd t_ n_ (nI (nmV T (tl - i_) i_ 0 0))) H locs ls ((Or.inr ⟨rfl, RI_end (by omega) hI hij (by omega) c58⟩)) (by rw [hf] at hm; simp only [Nat.mul_one, Nat.mul_zero] at *; omega) (hP.sub [1, 2, 0] rfl) (hD.sub [1, 2, 0] (by decide) rfl) hS (lv_sub hl [3, 1, 0] rfl)
            · skip
              have hj4 : nmJ T (tl - i_) i_ 0 0 < tl := by rcases Nat.lt_or_ge (nmJ T (tl - i_) i_ 0 0) tl with q | q; (exact q); (exfalso; rw [sg_ge (by omega)] at c58; omega)
              have hc4 : chr T (nmJ T (tl - i_) i_ 0 0) = 44 := by rw [sg_lt hj4] at c58; omega
              refine lv_iconst (v := (nI 1)) hx hb dX8_reads_61 (by decide) ?_
              refine lv_goto (tgt := 66) hx hb dX8_reads_62 (by decide) ?_
              refine lv_istore_n (lv' := [(2, .int (nI 1)), (1, .int (nI (n_ + 1))), (3, .int (nI (nmV T (tl - i_) i_ 0 0))), (0, .ref m0)]) hx hb dX8_reads_66 rfl hl (by decide) rfl (fun ls hl => ?_)
              refine lv_aload_n hx hb dX8_reads_67 rfl (lv_at hl 3 rfl) ?_
              refine lv_dup hx hb dX8_reads_68 rfl ?_
              refine va_get (D := dg) (ci := 8) (v := .int (nI (nmJ T (tl - i_) i_ 0 0))) (C := RX8) (T := TX8) (N := 10) hx hb hts in8 hown hK hP 1 rfl rfl 5 (by decide) f114 (fun _ h9 => h9) rfl dX8_reads_69 ?_
              refine lv_iload_n hx hb dX8_reads_72 rfl (lv_at hl 0 rfl) ?_
              refine r_if_eq (tgt := 80) hx hb (nI_tI (by omega)) dX8_reads_73 (by decide) (fun c73 => False.elim (by omega)) (fun c73 => ?_)
              refine lv_iconst (v := (nI 1)) hx hb dX8_reads_76 (by decide) ?_
              refine lv_goto (tgt := 81) hx hb dX8_reads_77 (by decide) ?_
              refine r_iadd_n hx hb dX8_reads_81 ?_
              refine va_put (D := dg) (ci := 8) (v := .int (nI ((nmJ T (tl - i_) i_ 0 0) + 1))) (ty := .int) (C := RX8) (T := TX8) (N := 10) hx hb hts in8 tyX8 tyX8_ok nmX8 hown hK hP hD hS 1 rfl rfl 5 (by decide) f114 (fun _ h9 => h9) rfl (by decide +kernel) rfl rfl (Nat.le_of_ble_eq_true rfl) dX8_reads_82 (fun H locs hP hD hS => ?_)
              have hP : va_P dg vwCl [(td, .inl (tq.1, 52, .inl (upd t_ n_ (nI (nmV T (tl - i_) i_ 0 0))))), (m0, .inr (8, [.ref ms, .ref mw, .int xs, .ref mt, .int (nI tl), .int (nI ((nmJ T (tl - i_) i_ 0 0) + 1)), .ref su, .ref pt, .ref td, .ref wy])), (mt, .inl (tq.2, 100, .inl T))] H := hP
              have hD : va_D AA [(td, .inl (tq.1, 52, .inl (upd t_ n_ (nI (nmV T (tl - i_) i_ 0 0))))), (m0, .inr (8, [.ref ms, .ref mw, .int xs, .ref mt, .int (nI tl), .int (nI ((nmJ T (tl - i_) i_ 0 0) + 1)), .ref su, .ref pt, .ref td, .ref wy])), (mt, .inl (tq.2, 100, .inl T))] := hD
              refine lv_goto (tgt := 9) hx hb dX8_reads_85 (by decide) ?_
              exact ih9 ((nmJ T (tl - i_) i_ 0 0) + 1) (n_ + 1) 1 (upd t_ n_ (nI (nmV T (tl - i_) i_ 0 0))) H locs ls ((Or.inl ⟨rfl, RI_go hI hij hj4 (by rw [hc4]; unfold es; rw [if_neg (by omega)])⟩)) (by rw [hf] at hm; simp only [Nat.mul_one, Nat.mul_zero] at *; omega) (hP.sub [1, 2, 0] rfl) (hD.sub [1, 2, 0] (by decide) rfl) hS (lv_sub hl [3, 1, 0] rfl)
          · skip
            refine lv_aload_n hx hb dX8_reads_26 rfl (lv_at hl 1 rfl) ?_
            refine call_x (va_runV (As := []) (rest := []) ⟨hx, hb, hml, hown, hts⟩ (kX8_sign ln dg tq (m0 := m0) (ms := ms) (mw := mw) (mt := mt) (su := su) (pt := pt) (td := td) (wy := wy) (xs := xs) (T := T) (tl := tl) (hT := hT) (at_ := nmJ T (tl - i_) i_ 0 0) (hat := (by omega)) H.size) (cwV 0 hts gX8_reads_X8_sign rfl rfl rfl hdX8_sign ⟨Nat.le_of_ble_eq_true rfl, Nat.le_of_ble_eq_true rfl⟩) (preVR hK hN hP [1, 2] rfl 1 rfl rfl []) rfl rfl hl.1 rfl (lv_room (Nat.le_of_ble_eq_true rfl)) dX8_reads_27 ⟨Nat.le_refl _, Nat.le_refl _⟩) hP hS hA (fun H locs hP hS => ?_)
            refine lv_bipush (v := (nI 58)) hx hb dX8_reads_30 (by decide) ?_
            refine r_icmp_eq (tgt := 37) hx hb (iI_toInt (by omega) (by omega)) (nI_tI (by omega)) dX8_reads_32 (by decide) (fun c32 => ?_) (fun c32 => ?_)
            · skip
              have hj8 : nmJ T (tl - i_) i_ 0 0 < tl := by rcases Nat.lt_or_ge (nmJ T (tl - i_) i_ 0 0) tl with q | q; (exact q); (exfalso; rw [sg_ge (by omega)] at c32; omega)
              have hch : chr T (nmJ T (tl - i_) i_ 0 0) = 58 := by rw [sg_lt hj8] at c32; omega
              refine lv_aload_n hx hb dX8_reads_37 rfl (lv_at hl 1 rfl) ?_
              refine va_get (D := dg) (ci := 8) (v := .ref td) (C := RX8) (T := TX8) (N := 10) hx hb hts in8 hown hK hP 1 rfl rfl 8 (by decide) f26 (fun _ h9 => h9) rfl dX8_reads_38 ?_
              refine lv_iload_n hx hb dX8_reads_41 rfl (lv_at hl 2 rfl) ?_
              refine lv_iload_n hx hb dX8_reads_42 rfl (lv_at hl 0 rfl) ?_
              refine r_iast_n hx hb hK hP hD hS 0 rfl (k := n_) (by omega) (by omega) dX8_reads_43 (fun H locs hP hD hS => ?_)
              have hP : va_P dg vwCl [(td, .inl (tq.1, 52, .inl (upd t_ n_ (nI (nmV T (tl - i_) i_ 0 0))))), (m0, .inr (8, [.ref ms, .ref mw, .int xs, .ref mt, .int (nI tl), .int (nI (nmJ T (tl - i_) i_ 0 0)), .ref su, .ref pt, .ref td, .ref wy])), (mt, .inl (tq.2, 100, .inl T))] H := hP
              have hD : va_D AA [(td, .inl (tq.1, 52, .inl (upd t_ n_ (nI (nmV T (tl - i_) i_ 0 0))))), (m0, .inr (8, [.ref ms, .ref mw, .int xs, .ref mt, .int (nI tl), .int (nI (nmJ T (tl - i_) i_ 0 0)), .ref su, .ref pt, .ref td, .ref wy])), (mt, .inl (tq.2, 100, .inl T))] := hD
              refine lv_iinc (v := (nI (n_ + 1))) (lv' := [(1, .int (nI (n_ + 1))), (3, .int (nI (nmV T (tl - i_) i_ 0 0))), (0, .ref m0), (2, .int (nI f_))]) hx hb dX8_reads_44 hl (k := 2) rfl (nI_add _ _) (by decide) rfl (fun ls hl => ?_)
              refine lv_iload_n hx hb dX8_reads_47 rfl (lv_at hl 0 rfl) ?_
              refine lv_iconst (v := (nI 1)) hx hb dX8_reads_48 (by decide) ?_
              refine r_icmp_eq (tgt := 61) hx hb (nI_tI (by omega)) (nI_tI (by omega)) dX8_reads_49 (by decide) (fun c49 => ?_) (fun c49 => False.elim (by omega))
              refine lv_iconst (v := (nI 1)) hx hb dX8_reads_61 (by decide) ?_
              refine lv_goto (tgt := 66) hx hb dX8_reads_62 (by decide) ?_
              refine lv_istore_n (lv' := [(2, .int (nI 1)), (1, .int (nI (n_ + 1))), (3, .int (nI (nmV T (tl - i_) i_ 0 0))), (0, .ref m0)]) hx hb dX8_reads_66 rfl hl (by decide) rfl (fun ls hl => ?_)
              refine lv_aload_n hx hb dX8_reads_67 rfl (lv_at hl 3 rfl) ?_
              refine lv_dup hx hb dX8_reads_68 rfl ?_
              refine va_get (D := dg) (ci := 8) (v := .int (nI (nmJ T (tl - i_) i_ 0 0))) (C := RX8) (T := TX8) (N := 10) hx hb hts in8 hown hK hP 1 rfl rfl 5 (by decide) f114 (fun _ h9 => h9) rfl dX8_reads_69 ?_
              refine lv_iload_n hx hb dX8_reads_72 rfl (lv_at hl 0 rfl) ?_
              refine r_if_eq (tgt := 80) hx hb (nI_tI (by omega)) dX8_reads_73 (by decide) (fun c73 => False.elim (by omega)) (fun c73 => ?_)
              refine lv_iconst (v := (nI 1)) hx hb dX8_reads_76 (by decide) ?_
              refine lv_goto (tgt := 81) hx hb dX8_reads_77 (by decide) ?_
              refine r_iadd_n hx hb dX8_reads_81 ?_
              refine va_put (D := dg) (ci := 8) (v := .int (nI ((nmJ T (tl - i_) i_ 0 0) + 1))) (ty := .int) (C := RX8) (T := TX8) (N := 10) hx hb hts in8 tyX8 tyX8_ok nmX8 hown hK hP hD hS 1 rfl rfl 5 (by decide) f114 (fun _ h9 => h9) rfl (by decide +kernel) rfl rfl (Nat.le_of_ble_eq_true rfl) dX8_reads_82 (fun H locs hP hD hS => ?_)
              have hP : va_P dg vwCl [(td, .inl (tq.1, 52, .inl (upd t_ n_ (nI (nmV T (tl - i_) i_ 0 0))))), (m0, .inr (8, [.ref ms, .ref mw, .int xs, .ref mt, .int (nI tl), .int (nI ((nmJ T (tl - i_) i_ 0 0) + 1)), .ref su, .ref pt, .ref td, .ref wy])), (mt, .inl (tq.2, 100, .inl T))] H := hP
              have hD : va_D AA [(td, .inl (tq.1, 52, .inl (upd t_ n_ (nI (nmV T (tl - i_) i_ 0 0))))), (m0, .inr (8, [.ref ms, .ref mw, .int xs, .ref mt, .int (nI tl), .int (nI ((nmJ T (tl - i_) i_ 0 0) + 1)), .ref su, .ref pt, .ref td, .ref wy])), (mt, .inl (tq.2, 100, .inl T))] := hD
              refine lv_goto (tgt := 9) hx hb dX8_reads_85 (by decide) ?_
              exact ih9 ((nmJ T (tl - i_) i_ 0 0) + 1) (n_ + 1) 1 (upd t_ n_ (nI (nmV T (tl - i_) i_ 0 0))) H locs ls ((Or.inl ⟨rfl, RI_go hI hij hj8 (by rw [hch]; unfold es; rw [if_pos (by omega)])⟩)) (by rw [hf] at hm; simp only [Nat.mul_one, Nat.mul_zero] at *; omega) (hP.sub [1, 2, 0] rfl) (hD.sub [1, 2, 0] (by decide) rfl) hS (lv_sub hl [3, 1, 0] rfl)
            · skip
              refine lv_iconst (v := (iI (-1))) hx hb dX8_reads_35 (by decide) ?_
              exact hret (iI (-1)) ((nmJ T (tl - i_) i_ 0 0), t_) H locs _ ls (show (iI (-1)) = (iI (rdR T tl)) ∧ ((p0 T tl = iI (-1) → pS T tl ≤ 51 ∧ ∀ x, x < pS T tl → t_ x = nI (pN T tl x)) ∧ (¬ p0 T tl = iI (-1) → p0 T tl = nI (nmJ T (tl - i_) i_ 0 0) ∧ (nmJ T (tl - i_) i_ 0 0) ≤ 100)) from (have e0 := RI_bad2 (by rw [show n_ = 0 by omega] at hI; exact hI) c32; have e1 : ¬ p0 T tl = iI (-1) := (by rw [e0]; exact nI_m18 (by omega)); ⟨by unfold rdR; rw [if_neg e1], fun z => absurd z e1, fun _ => ⟨e0, by omega⟩⟩)) rfl (hP.sub [1, 2, 0] rfl) (hD.sub [1, 2, 0] (by decide) rfl) hS dX8_reads_36
  exact loop9 _ 0 0 1 tt H locs ls (Or.inl ⟨rfl, RI_0 T tt tl⟩) (Nat.lt_succ_self _) (hP.sub [0, 1, 2] rfl) (hD.sub [0, 1, 2] (by decide) rfl) hS (lv_sub hl [2, 1, 0] rfl)
theorem hdX8_check : yX8_check.cls = RX8 ∧ yX8_check.cls ≠ "java/lang/invoke/MethodHandle" ∧ yX8_check.cls ≠ "java/lang/invoke/VarHandle" ∧ (parseMethodDescriptor yX8_check.desc).map (fun d => d.parameters.length) = some 0 := by decide +kernel
set_option maxHeartbeats 4000000 in
set_option maxRecDepth 100000 in
theorem kX8_check (ln : Launch) (dg : va_G) (tq : ClassId × ClassId) (m0 ms mw mt su pt td wy : Nat) (xs xa : Int32) (s T tt : Row) (hW : WF s) (tl : Nat) (hT : TOK T tl) : MW ln yX8_check wsX8_check (rmm 3 67) dg tq [.ref m0] [(m0, .inr (8, [.ref ms, .ref mw, .int xs, .ref mt, .int (nI tl), .int xa, .ref su, .ref pt, .ref td, .ref wy])), (ms, .inl (tq.1, 1445, .inl s)), (mt, .inl (tq.2, 100, .inl T)), (td, .inl (tq.1, 52, .inl tt))] (fun (r : Int32) (u : Nat × Row) => r = (ckR s T tl)) (fun u => [(m0, .inr (8, [.ref ms, .ref mw, .int xs, .ref mt, .int (nI tl), .int (nI u.1), .ref su, .ref pt, .ref td, .ref wy])), (ms, .inl (tq.1, 1445, .inl s)), (mt, .inl (tq.2, 100, .inl T)), (td, .inl (tq.1, 52, .inl u.2))]) := by
  refine MW.enter cX8_check 6 .int (by decide) rfl rfl (Nat.le_of_ble_eq_true rfl) ?_
  intro pP eE sS mM aA bB mT cC QQ AA hA hAT hret H locs hP hD hS ls hl
  obtain ⟨hx, hb, hml, hown, hts, hK, hN⟩ := hAT
  have hown : sS.vm.findClass RX8 = some mM.cls := hown
  have hl : lv_has ls 6 [(0, .ref m0)] := hl
  have in8 : ∀ w ∈ u_ws RX8 TX8 10, w ∈ wsX8_check := (fun _ h9 => List.mem_cons_of_mem _ (List.mem_append_right _ h9))
  have f26 := hts (.fieldLink RX8 26 "OrphanChainModel" "told" "[I") (List.mem_of_getElem? (i := 2) rfl)
  have k84 := hts (.constant RX8 84 (-100001)) (List.mem_of_getElem? (i := 4) rfl)
  have f7 := hts (.fieldLink RX8 7 "OrphanChainModel" "s" "[I") (List.mem_of_getElem? (i := 3) rfl)
  have f114 := hts (.fieldLink RX8 114 "OrphanChainModel" "at" "I") (List.mem_of_getElem? (i := 1) rfl)
  have hn60 := hW.n60
  have hb10 := hW.b10
  have hs8 := hW.s8
  have hhn := hW.hn
  have hdl := dep_le hW _ hhn
  have htl := hT.1
  have hz4 : 1 ≤ pS T tl := prS_pos _ _ _ _ _ _
  have hp0 := pN_lt hT 0
  have hrd : rdR T tl = -1 ∧ ¬ p0 T tl = iI (-1) ∨ rdR T tl = ((pS T tl : Nat) : Int) ∧ p0 T tl = iI (-1) := by unfold rdR; by_cases q : p0 T tl = iI (-1); (rw [if_pos q]; exact Or.inr ⟨rfl, q⟩); (rw [if_neg q]; exact Or.inl ⟨rfl, q⟩)
  refine lv_aload_n hx hb dX8_check_0 rfl (lv_at hl 0 rfl) ?_
  refine call_w (wr := [(ms, .inl (tq.1, 1445, .inl s))]) (va_runV (As := []) (rest := []) ⟨hx, hb, hml, hown, hts⟩ (kX8_reads ln dg tq (m0 := m0) (ms := ms) (mw := mw) (mt := mt) (su := su) (pt := pt) (td := td) (wy := wy) (xs := xs) (xa := xa) (T := T) (tt := tt) (tl := tl) (hT := hT) H.size) (cwV 0 hts gX8_check_X8_reads rfl rfl rfl hdX8_reads ⟨Nat.le_of_ble_eq_true rfl, Nat.le_of_ble_eq_true rfl⟩) (preVB hK hN hP hD [0, 2, 3] rfl rfl rfl 0 rfl rfl []) rfl rfl hl.1 rfl (lv_room (Nat.le_of_ble_eq_true rfl)) dX8_check_1 ⟨Nat.le_refl _, Nat.le_refl _⟩) hP hD hS hA [0, 2, 3] [1] rfl rfl (by decide) (by decide) (fun r1 u1 H locs hw1 hP hD hS => ?_)
  obtain ⟨a21, t21⟩ := u1
  have hP : va_P dg vwCl [(ms, .inl (tq.1, 1445, .inl s)), (m0, .inr (8, [.ref ms, .ref mw, .int xs, .ref mt, .int (nI tl), .int (nI a21), .ref su, .ref pt, .ref td, .ref wy])), (mt, .inl (tq.2, 100, .inl T)), (td, .inl (tq.1, 52, .inl t21))] H := hP
  have hD : va_D AA [(ms, .inl (tq.1, 1445, .inl s)), (m0, .inr (8, [.ref ms, .ref mw, .int xs, .ref mt, .int (nI tl), .int (nI a21), .ref su, .ref pt, .ref td, .ref wy])), (mt, .inl (tq.2, 100, .inl T)), (td, .inl (tq.1, 52, .inl t21))] := hD
  obtain ⟨hr1, hw1⟩ := hw1
  subst hr1
  refine lv_istore_n (lv' := [(1, .int (iI (rdR T tl))), (0, .ref m0)]) hx hb dX8_check_4 rfl hl (by decide) rfl (fun ls hl => ?_)
  refine lv_iload_n hx hb dX8_check_5 rfl (lv_at hl 0 rfl) ?_
  obtain ⟨hk1, hk2⟩ := hw1
  have hps : p0 T tl = iI (-1) → pS T tl ≤ 51 := fun z => (hk1 z).1
  have hrb : -1 ≤ rdR T tl ∧ rdR T tl ≤ 51 := by rcases hrd with ⟨q1, q2⟩ | ⟨q1, q2⟩; (rw [q1]; omega); (have := hps q2; omega)
  refine r_if_ge (tgt := 18) hx hb (iI_toInt (by omega) (by omega)) dX8_check_6 (by decide) (fun c6 => ?_) (fun c6 => ?_)
  · skip
    have c6a : p0 T tl = iI (-1) := by rcases hrd with ⟨q1, q2⟩ | ⟨q1, q2⟩; (exfalso; omega); (exact q2)
    have hr1 : rdR T tl = ((pS T tl : Nat) : Int) := if_pos c6a
    obtain ⟨hz2, hz3⟩ := hk1 c6a
    have hl : lv_has ls 6 [(1, .int (nI (pS T tl))), (0, .ref m0)] := by have el : (iI (rdR T tl)) = (nI (pS T tl)) := (iI_n hr1); rw [← el]; exact hl
    refine lv_aload_n hx hb dX8_check_18 rfl (lv_at hl 1 rfl) ?_
    refine lv_aload_n hx hb dX8_check_19 rfl (lv_at hl 1 rfl) ?_
    refine va_get (D := dg) (ci := 8) (v := .ref td) (C := RX8) (T := TX8) (N := 10) hx hb hts in8 hown hK hP 1 rfl rfl 8 (by decide) f26 (fun _ h9 => h9) rfl dX8_check_20 ?_
    refine lv_iconst (v := (nI 0)) hx hb dX8_check_23 (by decide) ?_
    refine r_iald_n hx hb hK hP 3 rfl (k := 0) (by omega) (by omega) dX8_check_24 ?_
    refine r_top (show (t21 0) = (nI (pN T tl 0)) from hz3 0 (by omega)) ?_
    refine call_x (va_runV (As := [.int (nI (pN T tl 0))]) (rest := []) ⟨hx, hb, hml, hown, hts⟩ (kX8_isEntry ln dg tq (m0 := m0) (ms := ms) (mw := mw) (mt := mt) (su := su) (pt := pt) (td := td) (wy := wy) (xs := xs) (xt := (nI tl)) (xa := (nI a21)) (s := s) (hW := hW) (x := (nI (pN T tl 0))) H.size) (cwV 1 hts gX8_check_X8_isEntry rfl rfl rfl hdX8_isEntry ⟨Nat.le_of_ble_eq_true rfl, Nat.le_of_ble_eq_true rfl⟩) (preVR hK hN hP [1, 0] rfl 1 rfl rfl [.int (nI (pN T tl 0))]) rfl rfl hl.1 rfl (lv_room (Nat.le_of_ble_eq_true rfl)) dX8_check_25 ⟨Nat.le_refl _, Nat.le_refl _⟩) hP hS hA (fun H locs hP hS => ?_)
    refine r_if_eq_b (tgt := 50) hx hb dX8_check_28 (by decide) (fun c28 => ?_) (fun c28 => ?_)
    · skip
      refine lv_ldc hx hb hown k84 dX8_check_50 ?_
      exact hret (-100001) (a21, t21) H locs _ ls (show (-100001) = (ckR s T tl) from (by unfold ckR; rw [if_pos c6a, if_neg (fun z => by rw [c28] at z; cases z.1)])) rfl (hP.sub [1, 0, 2, 3] rfl) (hD.sub [1, 0, 2, 3] (by decide) rfl) hS dX8_check_52
    · skip
      have hp1 : pN T tl 0 < nE s := (by obtain ⟨k, hk, hke⟩ := hasN_t c28; have := congrArg Int32.toInt hke; rw [nI_tI (by omega), nI_tI (by omega)] at this; omega)
      refine lv_aload_n hx hb dX8_check_31 rfl (lv_at hl 1 rfl) ?_
      refine lv_aload_n hx hb dX8_check_32 rfl (lv_at hl 1 rfl) ?_
      refine va_get (D := dg) (ci := 8) (v := .ref td) (C := RX8) (T := TX8) (N := 10) hx hb hts in8 hown hK hP 1 rfl rfl 8 (by decide) f26 (fun _ h9 => h9) rfl dX8_check_33 ?_
      refine lv_iconst (v := (nI 0)) hx hb dX8_check_36 (by decide) ?_
      refine r_iald_n hx hb hK hP 3 rfl (k := 0) (by omega) (by omega) dX8_check_37 ?_
      refine r_top (show (t21 0) = (nI (pN T tl 0)) from hz3 0 (by omega)) ?_
      refine lv_aload_n hx hb dX8_check_38 rfl (lv_at hl 1 rfl) ?_
      refine va_get (D := dg) (ci := 8) (v := .ref ms) (C := RX8) (T := TX8) (N := 10) hx hb hts in8 hown hK hP 1 rfl rfl 0 (by decide) f7 (fun _ h9 => h9) rfl dX8_check_39 ?_
      refine lv_iconst (v := (nI 1)) hx hb dX8_check_42 (by decide) ?_
      refine r_iald_n hx hb hK hP 0 rfl (k := 1) (by omega) (by omega) dX8_check_43 ?_
      refine r_top (show (s 1) = (nI (hE s)) from (hW.h)) ?_
      refine call_x (va_runV (As := [.int (nI (pN T tl 0)), .int (nI (hE s))]) (rest := []) ⟨hx, hb, hml, hown, hts⟩ (kX8_isOnPath ln dg tq (m0 := m0) (ms := ms) (mw := mw) (mt := mt) (su := su) (pt := pt) (td := td) (wy := wy) (xs := xs) (xt := (nI tl)) (xa := (nI a21)) (s := s) (hW := hW) (x := pN T tl 0) (y := hE s) (hx := (by omega)) (hy := (by omega)) H.size) (cwV 2 hts gX8_check_X8_isOnPath rfl rfl rfl hdX8_isOnPath ⟨Nat.le_of_ble_eq_true rfl, Nat.le_of_ble_eq_true rfl⟩) (preVR hK hN hP [1, 0] rfl 1 rfl rfl [.int (nI (pN T tl 0)), .int (nI (hE s))]) rfl rfl hl.1 rfl (lv_room (Nat.le_of_ble_eq_true rfl)) dX8_check_44 ⟨Nat.le_refl _, Nat.le_refl _⟩) hP hS hA (fun H locs hP hS => ?_)
      refine r_if_ne_b (tgt := 53) hx hb dX8_check_47 (by decide) (fun c47 => ?_) (fun c47 => ?_)
      · skip
        have hd1 := dep_ge1 s (pN T tl 0)
        obtain ⟨hd2, hd3, hd4⟩ := dep_on hW hhn c47
        refine lv_aload_n hx hb dX8_check_53 rfl (lv_at hl 1 rfl) ?_
        refine lv_aload_n hx hb dX8_check_54 rfl (lv_at hl 1 rfl) ?_
        refine va_get (D := dg) (ci := 8) (v := .ref td) (C := RX8) (T := TX8) (N := 10) hx hb hts in8 hown hK hP 1 rfl rfl 8 (by decide) f26 (fun _ h9 => h9) rfl dX8_check_55 ?_
        refine lv_iconst (v := (nI 0)) hx hb dX8_check_58 (by decide) ?_
        refine r_iald_n hx hb hK hP 3 rfl (k := 0) (by omega) (by omega) dX8_check_59 ?_
        refine r_top (show (t21 0) = (nI (pN T tl 0)) from hz3 0 (by omega)) ?_
        refine call_x (va_runV (As := [.int (nI (pN T tl 0))]) (rest := []) ⟨hx, hb, hml, hown, hts⟩ (kX8_depth ln dg tq (m0 := m0) (ms := ms) (mw := mw) (mt := mt) (su := su) (pt := pt) (td := td) (wy := wy) (xs := xs) (xt := (nI tl)) (xa := (nI a21)) (s := s) (hW := hW) (y := pN T tl 0) (hy := (by omega)) H.size) (cwV 1 hts gX8_check_X8_depth rfl rfl rfl hdX8_depth ⟨Nat.le_of_ble_eq_true rfl, Nat.le_of_ble_eq_true rfl⟩) (preVR hK hN hP [1, 0] rfl 1 rfl rfl [.int (nI (pN T tl 0))]) rfl rfl hl.1 rfl (lv_room (Nat.le_of_ble_eq_true rfl)) dX8_check_60 ⟨Nat.le_refl _, Nat.le_refl _⟩) hP hS hA (fun H locs hP hS => ?_)
        refine lv_istore_n (lv' := [(2, .int (nI (dep s (pN T tl 0)))), (1, .int (nI (pS T tl))), (0, .ref m0)]) hx hb dX8_check_63 rfl hl (by decide) rfl (fun ls hl => ?_)
        refine lv_aload_n hx hb dX8_check_64 rfl (lv_at hl 2 rfl) ?_
        refine lv_aload_n hx hb dX8_check_65 rfl (lv_at hl 2 rfl) ?_
        refine va_get (D := dg) (ci := 8) (v := .ref ms) (C := RX8) (T := TX8) (N := 10) hx hb hts in8 hown hK hP 1 rfl rfl 0 (by decide) f7 (fun _ h9 => h9) rfl dX8_check_66 ?_
        refine lv_iconst (v := (nI 1)) hx hb dX8_check_69 (by decide) ?_
        refine r_iald_n hx hb hK hP 0 rfl (k := 1) (by omega) (by omega) dX8_check_70 ?_
        refine r_top (show (s 1) = (nI (hE s)) from (hW.h)) ?_
        refine call_x (va_runV (As := [.int (nI (hE s))]) (rest := []) ⟨hx, hb, hml, hown, hts⟩ (kX8_depth ln dg tq (m0 := m0) (ms := ms) (mw := mw) (mt := mt) (su := su) (pt := pt) (td := td) (wy := wy) (xs := xs) (xt := (nI tl)) (xa := (nI a21)) (s := s) (hW := hW) (y := hE s) (hy := (by omega)) H.size) (cwV 1 hts gX8_check_X8_depth rfl rfl rfl hdX8_depth ⟨Nat.le_of_ble_eq_true rfl, Nat.le_of_ble_eq_true rfl⟩) (preVR hK hN hP [1, 0] rfl 1 rfl rfl [.int (nI (hE s))]) rfl rfl hl.1 rfl (lv_room (Nat.le_of_ble_eq_true rfl)) dX8_check_71 ⟨Nat.le_refl _, Nat.le_refl _⟩) hP hS hA (fun H locs hP hS => ?_)
        refine lv_istore_n (lv' := [(3, .int (nI (dep s (hE s)))), (2, .int (nI (dep s (pN T tl 0)))), (1, .int (nI (pS T tl))), (0, .ref m0)]) hx hb dX8_check_74 rfl hl (by decide) rfl (fun ls hl => ?_)
        refine lv_iconst (v := (nI 1)) hx hb dX8_check_75 (by decide) ?_
        refine lv_istore (lv' := [(4, .int (nI 1)), (3, .int (nI (dep s (hE s)))), (2, .int (nI (dep s (pN T tl 0)))), (1, .int (nI (pS T tl))), (0, .ref m0)]) hx hb dX8_check_76 hl (by decide) rfl (fun ls hl => ?_)
        have loop78 : ∀ (fu : Nat) (t_ : Nat) (H : Heap) (locs : List Loc) (ls : Array Slot), (t_ ≤ pS T tl - 1 ∧ ckL s T tl 0 (pS T tl - 1) = ckL s T tl t_ (pS T tl - 1 - t_)) → pS T tl - 1 - t_ < fu → va_P dg vwCl [(ms, .inl (tq.1, 1445, .inl s)), (m0, .inr (8, [.ref ms, .ref mw, .int xs, .ref mt, .int (nI tl), .int (nI a21), .ref su, .ref pt, .ref td, .ref wy])), (mt, .inl (tq.2, 100, .inl T)), (td, .inl (tq.1, 52, .inl t21))] H → va_D AA [(ms, .inl (tq.1, 1445, .inl s)), (m0, .inr (8, [.ref ms, .ref mw, .int xs, .ref mt, .int (nI tl), .int (nI a21), .ref su, .ref pt, .ref td, .ref wy])), (mt, .inl (tq.2, 100, .inl T)), (td, .inl (tq.1, 52, .inl t21))] → va_S AA sS.heap H locs → lv_has ls 6 [(0, .ref m0), (1, .int (nI (pS T tl))), (2, .int (nI (dep s (pN T tl 0)))), (3, .int (nI (dep s (hE s)))), (4, .int (nI (t_ + 1)))] → W pP ln eE (rmm 3 67) sS mM aA bB mT cC H locs 0 0 QQ (F0 mM 78 ls []) := by
          intro fu
          induction fu with
          | zero => intro t_ H locs ls _ hm; exact absurd hm (Nat.not_lt_zero _)
          | succ fu ih78 =>
            intro t_ H locs ls hinv hm hP hD hS hl
            obtain ⟨hi1, hi2⟩ := hinv
            refine lv_iload hx hb dX8_check_78 (lv_at hl 4 rfl) ?_
            refine lv_iload_n hx hb dX8_check_80 rfl (lv_at hl 1 rfl) ?_
            refine r_icmp_ge (tgt := 137) hx hb (nI_tI (by omega)) (nI_tI (by omega)) dX8_check_81 (by decide) (fun c81 => ?_) (fun c81 => ?_)
            · skip
              refine lv_iload_n hx hb dX8_check_137 rfl (lv_at hl 1 rfl) ?_
              refine lv_iconst (v := (nI 1)) hx hb dX8_check_138 (by decide) ?_
              refine r_isub_n hx hb (by omega) dX8_check_139 ?_
              exact hret (nI ((pS T tl) - 1)) (a21, t21) H locs _ ls (show (nI ((pS T tl) - 1)) = (ckR s T tl) from (by unfold ckR; rw [if_pos c6a, if_pos ⟨c28, c47⟩, hi2, show pS T tl - 1 - t_ = 0 by omega, ckL]; congr 1; omega)) rfl (hP.sub [1, 0, 2, 3] rfl) (hD.sub [1, 0, 2, 3] (by decide) rfl) hS dX8_check_140
            · skip
              refine lv_iload_n hx hb dX8_check_84 rfl (lv_at hl 2 rfl) ?_
              refine lv_iload hx hb dX8_check_85 (lv_at hl 4 rfl) ?_
              refine r_iadd_n hx hb dX8_check_87 ?_
              refine lv_iconst (v := (nI 1)) hx hb dX8_check_88 (by decide) ?_
              refine r_isub_n hx hb (by omega) dX8_check_89 ?_
              refine lv_istore (lv' := [(5, .int (nI (((dep s (pN T tl 0)) + (t_ + 1)) - 1))), (0, .ref m0), (1, .int (nI (pS T tl))), (2, .int (nI (dep s (pN T tl 0)))), (3, .int (nI (dep s (hE s)))), (4, .int (nI (t_ + 1)))]) hx hb dX8_check_90 hl (by decide) rfl (fun ls hl => ?_)
              refine lv_iload hx hb dX8_check_92 (lv_at hl 0 rfl) ?_
              refine lv_iload_n hx hb dX8_check_94 rfl (lv_at hl 4 rfl) ?_
              refine r_icmp_gt (tgt := 127) hx hb (nI_tI (by omega)) (nI_tI (by omega)) dX8_check_95 (by decide) (fun c95 => ?_) (fun c95 => ?_)
              · skip
                refine lv_iload hx hb dX8_check_127 (lv_at hl 5 rfl) ?_
                refine r_ineg_z hx hb (nI_iI _) dX8_check_129 ?_
                exact hret (iI (- ((t_ + 1 : Nat) : Int))) (a21, t21) H locs _ ls (show (iI (- ((t_ + 1 : Nat) : Int))) = (ckR s T tl) from (by unfold ckR; rw [if_pos c6a, if_pos ⟨c28, c47⟩, hi2, show pS T tl - 1 - t_ = (pS T tl - 1 - (t_ + 1)) + 1 by omega, ckL, if_neg (by unfold ckB; rw [decide_eq_false (show ¬ dep s (pN T tl 0) - 1 + t_ < dep s (hE s) by omega)]; simp)]; exact congrArg iI (by omega))) rfl (hP.sub [1, 0, 2, 3] rfl) (hD.sub [1, 0, 2, 3] (by decide) rfl) hS dX8_check_130
              · skip
                have hpl : dep s (pN T tl 0) - 1 + t_ < dep s (hE s) := by omega
                have hcE := cE_in hW hpl
                have hpt := pN_lt hT (t_ + 1)
                refine lv_aload_n hx hb dX8_check_98 rfl (lv_at hl 1 rfl) ?_
                refine lv_aload_n hx hb dX8_check_99 rfl (lv_at hl 1 rfl) ?_
                refine lv_aload_n hx hb dX8_check_100 rfl (lv_at hl 1 rfl) ?_
                refine va_get (D := dg) (ci := 8) (v := .ref ms) (C := RX8) (T := TX8) (N := 10) hx hb hts in8 hown hK hP 1 rfl rfl 0 (by decide) f7 (fun _ h9 => h9) rfl dX8_check_101 ?_
                refine lv_iconst (v := (nI 1)) hx hb dX8_check_104 (by decide) ?_
                refine r_iald_n hx hb hK hP 0 rfl (k := 1) (by omega) (by omega) dX8_check_105 ?_
                refine r_top (show (s 1) = (nI (hE s)) from (hW.h)) ?_
                refine lv_iload_n hx hb dX8_check_106 rfl (lv_at hl 4 rfl) ?_
                refine lv_iload hx hb dX8_check_107 (lv_at hl 0 rfl) ?_
                refine r_isub_n hx hb (by omega) dX8_check_109 ?_
                refine call_x (va_runV (As := [.int (nI (hE s)), .int (nI ((dep s (hE s)) - (((dep s (pN T tl 0)) + (t_ + 1)) - 1)))]) (rest := [.ref m0]) ⟨hx, hb, hml, hown, hts⟩ (kX8_above ln dg tq (m0 := m0) (ms := ms) (mw := mw) (mt := mt) (su := su) (pt := pt) (td := td) (wy := wy) (xs := xs) (xt := (nI tl)) (xa := (nI a21)) (s := s) (hW := hW) (y := hE s) (k := (dep s (hE s)) - (((dep s (pN T tl 0)) + (t_ + 1)) - 1)) (hy := (by omega)) (hk := (by omega)) H.size) (cwV 2 hts gX8_check_X8_above rfl rfl rfl hdX8_above ⟨Nat.le_of_ble_eq_true rfl, Nat.le_of_ble_eq_true rfl⟩) (preVR hK hN hP [1, 0] rfl 1 rfl rfl [.int (nI (hE s)), .int (nI ((dep s (hE s)) - (((dep s (pN T tl 0)) + (t_ + 1)) - 1)))]) rfl rfl hl.1 rfl (lv_room (Nat.le_of_ble_eq_true rfl)) dX8_check_110 ⟨Nat.le_refl _, Nat.le_refl _⟩) hP hS hA (fun H locs hP hS => ?_)
                refine r_top (show (nI (up s (hE s) ((dep s (hE s)) - (((dep s (pN T tl 0)) + (t_ + 1)) - 1)))) = (nI (cE s (dep s (pN T tl 0) - 1 + t_))) from by unfold cE; congr 2; omega) ?_
                refine lv_iconst (v := (nI 5)) hx hb dX8_check_113 (by decide) ?_
                refine call_x (va_runV (As := [.int (nI (cE s (dep s (pN T tl 0) - 1 + t_))), .int (nI 5)]) (rest := []) ⟨hx, hb, hml, hown, hts⟩ (kX8_en ln dg tq (m0 := m0) (ms := ms) (mw := mw) (mt := mt) (su := su) (pt := pt) (td := td) (wy := wy) (xs := xs) (xt := (nI tl)) (xa := (nI a21)) (s := s) (e := cE s (dep s (pN T tl 0) - 1 + t_)) (f := 5) (he := (by omega)) (hf := (by omega)) H.size) (cwV 2 hts gX8_check_X8_en rfl rfl rfl hdX8_en ⟨Nat.le_of_ble_eq_true rfl, Nat.le_of_ble_eq_true rfl⟩) (preVR hK hN hP [1, 0] rfl 1 rfl rfl [.int (nI (cE s (dep s (pN T tl 0) - 1 + t_))), .int (nI 5)]) rfl rfl hl.1 rfl (lv_room (Nat.le_of_ble_eq_true rfl)) dX8_check_114 ⟨Nat.le_refl _, Nat.le_refl _⟩) hP hS hA (fun H locs hP hS => ?_)
                refine r_top (show (s (5 + 7 * (cE s (dep s (pN T tl 0) - 1 + t_)) + 5)) = (me s (cE s (dep s (pN T tl 0) - 1 + t_)) 5) from rfl) ?_
                refine lv_aload_n hx hb dX8_check_117 rfl (lv_at hl 1 rfl) ?_
                refine va_get (D := dg) (ci := 8) (v := .ref td) (C := RX8) (T := TX8) (N := 10) hx hb hts in8 hown hK hP 1 rfl rfl 8 (by decide) f26 (fun _ h9 => h9) rfl dX8_check_118 ?_
                refine lv_iload hx hb dX8_check_121 (lv_at hl 5 rfl) ?_
                refine r_iald_n hx hb hK hP 3 rfl (k := (t_ + 1)) (by omega) (by omega) dX8_check_123 ?_
                refine r_top (show (t21 (t_ + 1)) = (nI (pN T tl (t_ + 1))) from hz3 _ (by omega)) ?_
                refine r_icmp_eq (tgt := 131) hx hb rfl (nI_tI (by omega)) dX8_check_124 (by decide) (fun c124 => ?_) (fun c124 => ?_)
                · skip
                  refine lv_iinc (v := (nI ((t_ + 1) + 1))) (lv' := [(4, .int (nI ((t_ + 1) + 1))), (5, .int (nI (((dep s (pN T tl 0)) + (t_ + 1)) - 1))), (0, .ref m0), (1, .int (nI (pS T tl))), (2, .int (nI (dep s (pN T tl 0)))), (3, .int (nI (dep s (hE s))))]) hx hb dX8_check_131 hl (k := 5) rfl (nI_add _ _) (by decide) rfl (fun ls hl => ?_)
                  refine lv_goto (tgt := 78) hx hb dX8_check_134 (by decide) ?_
                  exact ih78 (t_ + 1) H locs ls (⟨by omega, by rw [hi2, show pS T tl - 1 - t_ = (pS T tl - 1 - (t_ + 1)) + 1 by omega, ckL, if_pos (by unfold ckB; rw [decide_eq_true hpl, decide_eq_true (i32_eq (c124.trans (nI_tI (by omega)).symm))]; rfl)]⟩) (by omega) (hP.sub [0, 1, 2, 3] rfl) (hD.sub [0, 1, 2, 3] (by decide) rfl) hS (lv_sub hl [2, 3, 4, 5, 0] rfl)
                · skip
                  refine lv_iload hx hb dX8_check_127 (lv_at hl 5 rfl) ?_
                  refine r_ineg_z hx hb (nI_iI _) dX8_check_129 ?_
                  exact hret (iI (- ((t_ + 1 : Nat) : Int))) (a21, t21) H locs _ ls (show (iI (- ((t_ + 1 : Nat) : Int))) = (ckR s T tl) from (by unfold ckR; rw [if_pos c6a, if_pos ⟨c28, c47⟩, hi2, show pS T tl - 1 - t_ = (pS T tl - 1 - (t_ + 1)) + 1 by omega, ckL, if_neg (by unfold ckB; rw [decide_eq_true hpl, decide_eq_false (fun z => c124 (by rw [z]; exact nI_tI (by omega)))]; simp)]; exact congrArg iI (by omega))) rfl (hP.sub [1, 0, 2, 3] rfl) (hD.sub [1, 0, 2, 3] (by decide) rfl) hS dX8_check_130
        exact loop78 _ 0 H locs ls (⟨by omega, rfl⟩) (Nat.lt_succ_self _) (hP.sub [0, 1, 2, 3] rfl) (hD.sub [0, 1, 2, 3] (by decide) rfl) hS (lv_sub hl [4, 3, 2, 1, 0] rfl)
      · skip
        refine lv_ldc hx hb hown k84 dX8_check_50 ?_
        exact hret (-100001) (a21, t21) H locs _ ls (show (-100001) = (ckR s T tl) from (by unfold ckR; rw [if_pos c6a, if_neg (fun z => by rw [c47] at z; cases z.2)])) rfl (hP.sub [1, 0, 2, 3] rfl) (hD.sub [1, 0, 2, 3] (by decide) rfl) hS dX8_check_52
  · skip
    obtain ⟨hq1, hq2⟩ := hk2 (by rcases hrd with ⟨q1, q2⟩ | ⟨q1, q2⟩; (exact q2); (exfalso; omega))
    refine lv_sipush (v := (iI (-1000))) hx hb dX8_check_9 (by decide) ?_
    refine lv_aload_n hx hb dX8_check_12 rfl (lv_at hl 1 rfl) ?_
    refine va_get (D := dg) (ci := 8) (v := .int (nI a21)) (C := RX8) (T := TX8) (N := 10) hx hb hts in8 hown hK hP 1 rfl rfl 5 (by decide) f114 (fun _ h9 => h9) rfl dX8_check_13 ?_
    refine r_isub_z hx hb rfl (nI_iI _) dX8_check_16 ?_
    exact hret (iI ((-1000) - ((a21 : Nat) : Int))) (a21, t21) H locs _ ls (show (iI ((-1000) - ((a21 : Nat) : Int))) = (ckR s T tl) from (by unfold ckR; rw [if_neg (by rw [hq1]; exact nI_m18 (by omega)), hq1, nI_iI, iI_sub])) rfl (hP.sub [1, 0, 2, 3] rfl) (hD.sub [1, 0, 2, 3] (by decide) rfl) hS dX8_check_17
theorem hdX8_failing : yX8_failing.cls = RX8 ∧ yX8_failing.cls ≠ "java/lang/invoke/MethodHandle" ∧ yX8_failing.cls ≠ "java/lang/invoke/VarHandle" ∧ (parseMethodDescriptor yX8_failing.desc).map (fun d => d.parameters.length) = some 2 := by decide +kernel
set_option maxHeartbeats 4000000 in
set_option maxRecDepth 100000 in
theorem kX8_failing (ln : Launch) (dg : va_G) (tq : ClassId × ClassId) (m0 ms mw mt su pt td wy : Nat) (xs xt xa : Int32) (s f pp : Row) (hW : WF s) (x w : Int32) : MW ln yX8_failing wsX8_failing (rmm 4 92) dg tq [.ref m0, .int x, .int w] [(m0, .inr (8, [.ref ms, .ref mw, .int xs, .ref mt, .int xt, .int xa, .ref su, .ref pt, .ref td, .ref wy])), (ms, .inl (tq.1, 1445, .inl s)), (su, .inl (tq.1, 6, .inl f)), (pt, .inl (tq.1, 60, .inl pp))] (fun (r : Int32) (u : Row × Row) => r = (flR s x w)) (fun u => [(m0, .inr (8, [.ref ms, .ref mw, .int xs, .ref mt, .int xt, .int xa, .ref su, .ref pt, .ref td, .ref wy])), (ms, .inl (tq.1, 1445, .inl s)), (su, .inl (tq.1, 6, .inl u.1)), (pt, .inl (tq.1, 60, .inl u.2))]) := by
  refine MW.enter cX8_failing 5 .int (by decide) rfl rfl (Nat.le_of_ble_eq_true rfl) ?_
  intro pP eE sS mM aA bB mT cC QQ AA hA hAT hret H locs hP hD hS ls hl
  obtain ⟨hx, hb, hml, hown, hts, hK, hN⟩ := hAT
  have hown : sS.vm.findClass RX8 = some mM.cls := hown
  have hl : lv_has ls 5 [(0, .ref m0), (1, .int x), (2, .int w)] := hl
  have in8 : ∀ w ∈ u_ws RX8 TX8 10, w ∈ wsX8_failing := (fun _ h9 => List.mem_cons_of_mem _ (List.mem_append_right _ h9))
  have k84 := hts (.constant RX8 84 (-100001)) (List.mem_of_getElem? (i := 1) rfl)
  have f7 := hts (.fieldLink RX8 7 "OrphanChainModel" "s" "[I") (List.mem_of_getElem? (i := 2) rfl)
  have k32 := hts (.constant RX8 32 (-100009)) (List.mem_of_getElem? (i := 4) rfl)
  have f23 := hts (.fieldLink RX8 23 "OrphanChainModel" "path" "[I") (List.mem_of_getElem? (i := 3) rfl)
  have hn60 := hW.n60
  have hb10 := hW.b10
  have hs8 := hW.s8
  have hhn := hW.hn
  refine lv_aload_n hx hb dX8_failing_0 rfl (lv_at hl 0 rfl) ?_
  refine lv_iload_n hx hb dX8_failing_1 rfl (lv_at hl 1 rfl) ?_
  refine call_x (va_runV (As := [.int x]) (rest := []) ⟨hx, hb, hml, hown, hts⟩ (kX8_isBranch ln dg tq (m0 := m0) (ms := ms) (mw := mw) (mt := mt) (su := su) (pt := pt) (td := td) (wy := wy) (xs := xs) (xt := xt) (xa := xa) (s := s) (hW := hW) (x := x) H.size) (cwV 1 hts gX8_failing_X8_isBranch rfl rfl rfl hdX8_isBranch ⟨Nat.le_of_ble_eq_true rfl, Nat.le_of_ble_eq_true rfl⟩) (preVR hK hN hP [0, 1] rfl 0 rfl rfl [.int x]) rfl rfl hl.1 rfl (lv_room (Nat.le_of_ble_eq_true rfl)) dX8_failing_2 ⟨Nat.le_refl _, Nat.le_refl _⟩) hP hS hA (fun H locs hP hS => ?_)
  refine r_if_eq_b (tgt := 17) hx hb dX8_failing_5 (by decide) (fun c5 => ?_) (fun c5 => ?_)
  · skip
    refine lv_ldc hx hb hown k84 dX8_failing_17 ?_
    exact hret (-100001) (f, pp) H locs _ ls (show (-100001) = (flR s x w) from (by unfold flR adP; rw [c5, Bool.false_and]; rfl)) rfl (hP.sub [0, 1, 2, 3] rfl) (hD.sub [0, 1, 2, 3] (by decide) rfl) hS dX8_failing_19
  · skip
    refine lv_iload_n hx hb dX8_failing_8 rfl (lv_at hl 2 rfl) ?_
    refine lv_iconst (v := (nI 0)) hx hb dX8_failing_9 (by decide) ?_
    refine lv_iconst (v := (nI 1)) hx hb dX8_failing_10 (by decide) ?_
    refine call_x (va_runS (As := [.int w, .int (nI 0), .int (nI 1)]) (rest := []) ⟨hx, hb, hml, hown, hts⟩ (kX8_in ln dg tq (v := w) (lo := (nI 0)) (hi := (nI 1)) H.size) (va_cwS 3 hts gX8_failing_X8_in rfl rfl rfl hdX8_in.2 ⟨Nat.le_of_ble_eq_true rfl, Nat.le_of_ble_eq_true rfl⟩) (preS0 hK hN [.int w, .int (nI 0), .int (nI 1)]) rfl rfl hl.1 rfl (lv_room (Nat.le_of_ble_eq_true rfl)) dX8_failing_11 ⟨Nat.le_refl _, Nat.le_refl _⟩) hP hS hA (fun H locs hP hS => ?_)
    refine r_if_ne_b (tgt := 20) hx hb dX8_failing_14 (by decide) (fun c14 => ?_) (fun c14 => ?_)
    · skip
      obtain ⟨bk_, hbk, rfl⟩ := hasN_t c5
      have hlf := hW.lfl hbk
      have hmn := hW.mn60 hbk
      refine lv_aload_n hx hb dX8_failing_20 rfl (lv_at hl 0 rfl) ?_
      refine lv_aload_n hx hb dX8_failing_21 rfl (lv_at hl 0 rfl) ?_
      refine va_get (D := dg) (ci := 8) (v := .ref ms) (C := RX8) (T := TX8) (N := 10) hx hb hts in8 hown hK hP 0 rfl rfl 0 (by decide) f7 (fun _ h9 => h9) rfl dX8_failing_22 ?_
      refine lv_iconst (v := (nI 1)) hx hb dX8_failing_25 (by decide) ?_
      refine r_iald_n hx hb hK hP 1 rfl (k := 1) (by omega) (by omega) dX8_failing_26 ?_
      refine r_top (show (s 1) = (nI (hE s)) from (hW.h)) ?_
      refine call_v (wr := [(pt, .inl (tq.1, 60, .inl pp))]) (va_runV (As := [.int (nI (hE s))]) (rest := []) ⟨hx, hb, hml, hown, hts⟩ (kX8_balances ln dg tq (m0 := m0) (ms := ms) (mw := mw) (mt := mt) (su := su) (pt := pt) (td := td) (wy := wy) (xs := xs) (xt := xt) (xa := xa) (s := s) (f := f) (hW := hW) (y := hE s) (hy := (by omega)) H.size) (cwV 1 hts gX8_failing_X8_balances rfl rfl rfl hdX8_balances ⟨Nat.le_of_ble_eq_true rfl, Nat.le_of_ble_eq_true rfl⟩) (preVB hK hN hP hD [0, 1, 2] rfl rfl rfl 0 rfl rfl [.int (nI (hE s))]) rfl rfl hl.1 rfl (lv_room (Nat.le_of_ble_eq_true rfl)) dX8_failing_27 ⟨Nat.le_refl _, Nat.le_refl _⟩) hP hD hS hA [0, 1, 2] [3] rfl rfl (by decide) (by decide) (fun u27 H locs hw27 hP hD hS => ?_)
      obtain ⟨g27, rfl⟩ : ∃ z, z = u27 := ⟨_, rfl⟩
      have hP : va_P dg vwCl [(pt, .inl (tq.1, 60, .inl pp)), (m0, .inr (8, [.ref ms, .ref mw, .int xs, .ref mt, .int xt, .int xa, .ref su, .ref pt, .ref td, .ref wy])), (ms, .inl (tq.1, 1445, .inl s)), (su, .inl (tq.1, 6, .inl g27))] H := hP
      have hD : va_D AA [(pt, .inl (tq.1, 60, .inl pp)), (m0, .inr (8, [.ref ms, .ref mw, .int xs, .ref mt, .int xt, .int xa, .ref su, .ref pt, .ref td, .ref wy])), (ms, .inl (tq.1, 1445, .inl s)), (su, .inl (tq.1, 6, .inl g27))] := hD
      refine lv_aload_n hx hb dX8_failing_30 rfl (lv_at hl 0 rfl) ?_
      refine lv_iload_n hx hb dX8_failing_31 rfl (lv_at hl 1 rfl) ?_
      refine call_w (wr := []) (va_runV (As := [.int (nI bk_)]) (rest := []) ⟨hx, hb, hml, hown, hts⟩ (kX8_tries ln dg tq (m0 := m0) (ms := ms) (mw := mw) (mt := mt) (su := su) (pt := pt) (td := td) (wy := wy) (xs := xs) (xt := xt) (xa := xa) (s := s) (f := g27) (pp := pp) (hW := hW) (b := bk_) (hb0 := (by omega)) (v := bal s (hE s)) (hV := hw27) (N := 58941) (hB := (bal_bd hW hhn)) (hn9 := (by omega)) H.size) (cwV 1 hts gX8_failing_X8_tries rfl rfl rfl hdX8_tries ⟨Nat.le_of_ble_eq_true rfl, Nat.le_of_ble_eq_true rfl⟩) (preVB hK hN hP hD [1, 2, 3, 0] rfl rfl rfl 1 rfl rfl [.int (nI bk_)]) rfl rfl hl.1 rfl (lv_room (Nat.le_of_ble_eq_true rfl)) dX8_failing_32 ⟨Nat.le_refl _, Nat.le_refl _⟩) hP hD hS hA [1, 2, 3, 0] [] rfl rfl (by decide) (by decide) (fun r32 u32 H locs hw32 hP hD hS => ?_)
      obtain ⟨g32, p232⟩ := u32
      have hP : va_P dg vwCl [(m0, .inr (8, [.ref ms, .ref mw, .int xs, .ref mt, .int xt, .int xa, .ref su, .ref pt, .ref td, .ref wy])), (ms, .inl (tq.1, 1445, .inl s)), (su, .inl (tq.1, 6, .inl g32)), (pt, .inl (tq.1, 60, .inl p232))] H := hP
      have hD : va_D AA [(m0, .inr (8, [.ref ms, .ref mw, .int xs, .ref mt, .int xt, .int xa, .ref su, .ref pt, .ref td, .ref wy])), (ms, .inl (tq.1, 1445, .inl s)), (su, .inl (tq.1, 6, .inl g32)), (pt, .inl (tq.1, 60, .inl p232))] := hD
      obtain ⟨hr32, hw32⟩ := hw32
      subst hr32
      refine r_top (show (nI (trN s (bal s (hE s)) (brE s bk_) (mn s bk_))) = (nI (adN s bk_)) from rfl) ?_
      refine lv_istore_n (lv' := [(3, .int (nI (adN s bk_))), (0, .ref m0), (1, .int (nI bk_)), (2, .int w)]) hx hb dX8_failing_35 rfl hl (by decide) rfl (fun ls hl => ?_)
      have htn : adN s bk_ ≤ mn s bk_ := trN_le s (bal s (hE s)) (brE s bk_) (mn s bk_)
      refine lv_iload_n hx hb dX8_failing_36 rfl (lv_at hl 3 rfl) ?_
      refine lv_iconst (v := (nI 1)) hx hb dX8_failing_37 (by decide) ?_
      refine r_icmp_ne (tgt := 43) hx hb rfl (nI_tI (by omega)) dX8_failing_38 (by decide) (fun c38 => ?_) (fun c38 => ?_)
      · skip
        obtain ⟨wk_, hw1, hw2, hwk⟩ := inR_t (a := 0) (b := 1) (by omega) (by omega) c14
        have hw0 : w = nI 0 := by rw [hwk] at c38 ⊢; rw [nI_tI (by omega)] at c38; congr 1; omega
        refine lv_iconst (v := (nI 0)) hx hb dX8_failing_43 (by decide) ?_
        refine lv_istore (lv' := [(4, .int (nI 0)), (3, .int (nI (adN s bk_))), (0, .ref m0), (1, .int (nI bk_)), (2, .int w)]) hx hb dX8_failing_44 hl (by decide) rfl (fun ls hl => ?_)
        have loop46 : ∀ (fu : Nat) (k_ : Nat) (H : Heap) (locs : List Loc) (ls : Array Slot), (k_ ≤ mn s bk_ ∧ trN s (bal s (hE s)) (brE s bk_) k_ = k_ ∧ fstR s (bal s (hE s)) (brE s bk_) 0 (mn s bk_) = fstR s (bal s (hE s)) (brE s bk_) k_ (mn s bk_ - k_)) → mn s bk_ - k_ < fu → va_P dg vwCl [(m0, .inr (8, [.ref ms, .ref mw, .int xs, .ref mt, .int xt, .int xa, .ref su, .ref pt, .ref td, .ref wy])), (ms, .inl (tq.1, 1445, .inl s)), (su, .inl (tq.1, 6, .inl g32)), (pt, .inl (tq.1, 60, .inl p232))] H → va_D AA [(m0, .inr (8, [.ref ms, .ref mw, .int xs, .ref mt, .int xt, .int xa, .ref su, .ref pt, .ref td, .ref wy])), (ms, .inl (tq.1, 1445, .inl s)), (su, .inl (tq.1, 6, .inl g32)), (pt, .inl (tq.1, 60, .inl p232))] → va_S AA sS.heap H locs → lv_has ls 5 [(0, .ref m0), (1, .int (nI bk_)), (3, .int (nI (adN s bk_))), (4, .int (nI k_))] → W pP ln eE (rmm 4 92) sS mM aA bB mT cC H locs 0 0 QQ (F0 mM 46 ls []) := by
          intro fu
          induction fu with
          | zero => intro k_ H locs ls _ hm; exact absurd hm (Nat.not_lt_zero _)
          | succ fu ih46 =>
            intro k_ H locs ls hinv hm hP hD hS hl
            obtain ⟨hi1, hi2, hi3⟩ := hinv
            refine lv_iload hx hb dX8_failing_46 (lv_at hl 3 rfl) ?_
            refine lv_aload_n hx hb dX8_failing_48 rfl (lv_at hl 0 rfl) ?_
            refine lv_iload_n hx hb dX8_failing_49 rfl (lv_at hl 1 rfl) ?_
            refine lv_iconst (v := (nI 1)) hx hb dX8_failing_50 (by decide) ?_
            refine call_x (va_runV (As := [.int (nI bk_), .int (nI 1)]) (rest := [.int (nI k_)]) ⟨hx, hb, hml, hown, hts⟩ (kX8_br ln dg tq (m0 := m0) (ms := ms) (mw := mw) (mt := mt) (su := su) (pt := pt) (td := td) (wy := wy) (xs := xs) (xt := xt) (xa := xa) (s := s) (b := bk_) (f := 1) (hb0 := (by omega)) (hf := (by omega)) H.size) (cwV 2 hts gX8_failing_X8_br rfl rfl rfl hdX8_br ⟨Nat.le_of_ble_eq_true rfl, Nat.le_of_ble_eq_true rfl⟩) (preVR hK hN hP [0, 1] rfl 0 rfl rfl [.int (nI bk_), .int (nI 1)]) rfl rfl hl.1 rfl (lv_room (Nat.le_of_ble_eq_true rfl)) dX8_failing_51 ⟨Nat.le_refl _, Nat.le_refl _⟩) hP hS hA (fun H locs hP hS => ?_)
            refine r_top (show (s (425 + 4 * bk_ + 1)) = (nI (mn s bk_)) from (hW.br (b := bk_) (by omega)).2.2.1) ?_
            refine r_icmp_ge (tgt := 94) hx hb (nI_tI (by omega)) (nI_tI (by omega)) dX8_failing_54 (by decide) (fun c54 => ?_) (fun c54 => ?_)
            · skip
              refine lv_ldc hx hb hown k32 dX8_failing_94 ?_
              exact hret (-100009) (g32, p232) H locs _ ls (show (-100009) = (flR s (nI bk_) w) from (by unfold flR adP; rw [c5, c14, Bool.and_self, if_pos rfl, if_pos hw0, cl_n (show bk_ < 2147483648 by omega)]; rw [hi3, show mn s bk_ - k_ = 0 by omega]; rfl)) rfl (hP.sub [0, 1, 2, 3] rfl) (hD.sub [0, 1, 2, 3] (by decide) rfl) hS dX8_failing_96
            · skip
              have hbe := brE_in hW hbk (k := k_) (by omega)
              refine lv_iload hx hb dX8_failing_57 (lv_at hl 3 rfl) ?_
              refine lv_iload_n hx hb dX8_failing_59 rfl (lv_at hl 2 rfl) ?_
              refine r_icmp_ge (tgt := 80) hx hb (nI_tI (by omega)) (nI_tI (by omega)) dX8_failing_60 (by decide) (fun c60 => ?_) (fun c60 => ?_)
              · skip
                refine lv_aload_n hx hb dX8_failing_80 rfl (lv_at hl 0 rfl) ?_
                refine lv_iload_n hx hb dX8_failing_81 rfl (lv_at hl 1 rfl) ?_
                refine lv_iload hx hb dX8_failing_82 (lv_at hl 3 rfl) ?_
                refine call_x (va_runV (As := [.int (nI bk_), .int (nI k_)]) (rest := []) ⟨hx, hb, hml, hown, hts⟩ (kX8_ofBranch ln dg tq (m0 := m0) (ms := ms) (mw := mw) (mt := mt) (su := su) (pt := pt) (td := td) (wy := wy) (xs := xs) (xt := xt) (xa := xa) (s := s) (hW := hW) (b := bk_) (k := k_) (hb0 := (by omega)) (hk := (by omega)) H.size) (cwV 2 hts gX8_failing_X8_ofBranch rfl rfl rfl hdX8_ofBranch ⟨Nat.le_of_ble_eq_true rfl, Nat.le_of_ble_eq_true rfl⟩) (preVR hK hN hP [0, 1] rfl 0 rfl rfl [.int (nI bk_), .int (nI k_)]) rfl rfl hl.1 rfl (lv_room (Nat.le_of_ble_eq_true rfl)) dX8_failing_84 ⟨Nat.le_refl _, Nat.le_refl _⟩) hP hS hA (fun H locs hP hS => ?_)
                exact hret (nI (brE s bk_ k_)) (g32, p232) H locs _ ls (show (nI (brE s bk_ k_)) = (flR s (nI bk_) w) from (by unfold flR adP; rw [c5, c14, Bool.and_self, if_pos rfl, if_pos hw0, cl_n (show bk_ < 2147483648 by omega)]; rw [hi3, show mn s bk_ - k_ = (mn s bk_ - (k_ + 1)) + 1 by omega, fstR, if_neg (by rw [fl_f hi2 (by omega) (fun z => absurd (show k_ < adN s bk_ from z.1) (by omega))]; decide)])) rfl (hP.sub [0, 1, 2, 3] rfl) (hD.sub [0, 1, 2, 3] (by decide) rfl) hS dX8_failing_87
              · skip
                have hok := (wK_lt hW hbk (k := k_) (show k_ < adN s bk_ by omega))
                refine lv_aload_n hx hb dX8_failing_63 rfl (lv_at hl 0 rfl) ?_
                refine va_get (D := dg) (ci := 8) (v := .ref pt) (C := RX8) (T := TX8) (N := 10) hx hb hts in8 hown hK hP 0 rfl rfl 7 (by decide) f23 (fun _ h9 => h9) rfl dX8_failing_64 ?_
                refine lv_iload hx hb dX8_failing_67 (lv_at hl 3 rfl) ?_
                refine r_iald_n hx hb hK hP 3 rfl (k := k_) (by omega) (by omega) dX8_failing_69 ?_
                refine r_top (show (p232 k_) = (nI (okE s (bal s (hE s)) (brE s bk_) (mn s bk_) k_)) from hw32.2 k_ (show k_ < adN s bk_ by omega)) ?_
                refine lv_aload_n hx hb dX8_failing_70 rfl (lv_at hl 0 rfl) ?_
                refine lv_iload_n hx hb dX8_failing_71 rfl (lv_at hl 1 rfl) ?_
                refine lv_iload hx hb dX8_failing_72 (lv_at hl 3 rfl) ?_
                refine call_x (va_runV (As := [.int (nI bk_), .int (nI k_)]) (rest := [.int (nI (okE s (bal s (hE s)) (brE s bk_) (mn s bk_) k_))]) ⟨hx, hb, hml, hown, hts⟩ (kX8_ofBranch ln dg tq (m0 := m0) (ms := ms) (mw := mw) (mt := mt) (su := su) (pt := pt) (td := td) (wy := wy) (xs := xs) (xt := xt) (xa := xa) (s := s) (hW := hW) (b := bk_) (k := k_) (hb0 := (by omega)) (hk := (by omega)) H.size) (cwV 2 hts gX8_failing_X8_ofBranch rfl rfl rfl hdX8_ofBranch ⟨Nat.le_of_ble_eq_true rfl, Nat.le_of_ble_eq_true rfl⟩) (preVR hK hN hP [0, 1] rfl 0 rfl rfl [.int (nI bk_), .int (nI k_)]) rfl rfl hl.1 rfl (lv_room (Nat.le_of_ble_eq_true rfl)) dX8_failing_74 ⟨Nat.le_refl _, Nat.le_refl _⟩) hP hS hA (fun H locs hP hS => ?_)
                refine r_icmp_eq (tgt := 88) hx hb (nI_tI (by omega)) (nI_tI (by omega)) dX8_failing_77 (by decide) (fun c77 => ?_) (fun c77 => ?_)
                · skip
                  refine lv_iinc (v := (nI (k_ + 1))) (lv' := [(4, .int (nI (k_ + 1))), (0, .ref m0), (1, .int (nI bk_)), (3, .int (nI (adN s bk_)))]) hx hb dX8_failing_88 hl (k := 3) rfl (nI_add _ _) (by decide) rfl (fun ls hl => ?_)
                  refine lv_goto (tgt := 46) hx hb dX8_failing_91 (by decide) ?_
                  exact ih46 (k_ + 1) H locs ls (⟨by omega, by rw [trN, if_pos (fl_t hW hbk hi2 (by omega) (show k_ < adN s bk_ by omega) (by omega)), hi2], by rw [hi3, show mn s bk_ - k_ = (mn s bk_ - (k_ + 1)) + 1 by omega, fstR, if_pos (fl_t hW hbk hi2 (by omega) (show k_ < adN s bk_ by omega) (by omega))]⟩) (by omega) (hP.sub [0, 1, 2, 3] rfl) (hD.sub [0, 1, 2, 3] (by decide) rfl) hS (lv_sub hl [1, 2, 3, 0] rfl)
                · skip
                  refine lv_aload_n hx hb dX8_failing_80 rfl (lv_at hl 0 rfl) ?_
                  refine lv_iload_n hx hb dX8_failing_81 rfl (lv_at hl 1 rfl) ?_
                  refine lv_iload hx hb dX8_failing_82 (lv_at hl 3 rfl) ?_
                  refine call_x (va_runV (As := [.int (nI bk_), .int (nI k_)]) (rest := []) ⟨hx, hb, hml, hown, hts⟩ (kX8_ofBranch ln dg tq (m0 := m0) (ms := ms) (mw := mw) (mt := mt) (su := su) (pt := pt) (td := td) (wy := wy) (xs := xs) (xt := xt) (xa := xa) (s := s) (hW := hW) (b := bk_) (k := k_) (hb0 := (by omega)) (hk := (by omega)) H.size) (cwV 2 hts gX8_failing_X8_ofBranch rfl rfl rfl hdX8_ofBranch ⟨Nat.le_of_ble_eq_true rfl, Nat.le_of_ble_eq_true rfl⟩) (preVR hK hN hP [0, 1] rfl 0 rfl rfl [.int (nI bk_), .int (nI k_)]) rfl rfl hl.1 rfl (lv_room (Nat.le_of_ble_eq_true rfl)) dX8_failing_84 ⟨Nat.le_refl _, Nat.le_refl _⟩) hP hS hA (fun H locs hP hS => ?_)
                  exact hret (nI (brE s bk_ k_)) (g32, p232) H locs _ ls (show (nI (brE s bk_ k_)) = (flR s (nI bk_) w) from (by unfold flR adP; rw [c5, c14, Bool.and_self, if_pos rfl, if_pos hw0, cl_n (show bk_ < 2147483648 by omega)]; rw [hi3, show mn s bk_ - k_ = (mn s bk_ - (k_ + 1)) + 1 by omega, fstR, if_neg (by rw [fl_f hi2 (by omega) (fun z => absurd z.2 (by omega))]; decide)])) rfl (hP.sub [0, 1, 2, 3] rfl) (hD.sub [0, 1, 2, 3] (by decide) rfl) hS dX8_failing_87
        exact loop46 _ 0 H locs ls (⟨by omega, rfl, rfl⟩) (Nat.lt_succ_self _) (hP.sub [0, 1, 2, 3] rfl) (hD.sub [0, 1, 2, 3] (by decide) rfl) hS (lv_sub hl [2, 3, 1, 0] rfl)
      · skip
        refine lv_iload_n hx hb dX8_failing_41 rfl (lv_at hl 0 rfl) ?_
        exact hret (nI (adN s bk_)) (g32, p232) H locs _ ls (show (nI (adN s bk_)) = (flR s (nI bk_) w) from (by unfold flR adP; rw [c5, c14, Bool.and_self, if_pos rfl, if_neg (show ¬ w = nI 0 from fun z => by rw [z] at c38; exact absurd c38 (by decide)), cl_n (show bk_ < 2147483648 by omega)])) rfl (hP.sub [0, 1, 2, 3] rfl) (hD.sub [0, 1, 2, 3] (by decide) rfl) hS dX8_failing_42
    · skip
      refine lv_ldc hx hb hown k84 dX8_failing_17 ?_
      exact hret (-100001) (f, pp) H locs _ ls (show (-100001) = (flR s x w) from (by unfold flR adP; rw [c14, Bool.and_false]; rfl)) rfl (hP.sub [0, 1, 2, 3] rfl) (hD.sub [0, 1, 2, 3] (by decide) rfl) hS dX8_failing_19
theorem hdX8_canFollow : yX8_canFollow.cls = RX8 ∧ yX8_canFollow.cls ≠ "java/lang/invoke/MethodHandle" ∧ yX8_canFollow.cls ≠ "java/lang/invoke/VarHandle" ∧ (parseMethodDescriptor yX8_canFollow.desc).map (fun d => d.parameters.length) = some 3 := by decide +kernel
set_option maxHeartbeats 4000000 in
set_option maxRecDepth 100000 in
theorem kX8_canFollow (ln : Launch) (dg : va_G) (tq : ClassId × ClassId) (m0 ms mw mt su pt td wy : Nat) (xs xt xa : Int32) (s f pp : Row) (hW : WF s) (set k n : Nat) (hn : n = nW s) (h5 : nW s ≤ 5) (hk : k < nW s) (hset : set < 2 ^ nW s) (hB : BV (setV s set (nW s)) 500000) : MW ln yX8_canFollow wsX8_canFollow (rmm 4 92) dg tq [.ref m0, .int (nI set), .int (nI k), .int (nI n)] [(m0, .inr (8, [.ref ms, .ref mw, .int xs, .ref mt, .int xt, .int xa, .ref su, .ref pt, .ref td, .ref wy])), (ms, .inl (tq.1, 1445, .inl s)), (su, .inl (tq.1, 6, .inl f)), (pt, .inl (tq.1, 60, .inl pp))] (fun (r : Int32) (u : Row × Row) => r = (bI (canB s set k))) (fun u => [(m0, .inr (8, [.ref ms, .ref mw, .int xs, .ref mt, .int xt, .int xa, .ref su, .ref pt, .ref td, .ref wy])), (ms, .inl (tq.1, 1445, .inl s)), (su, .inl (tq.1, 6, .inl u.1)), (pt, .inl (tq.1, 60, .inl u.2))]) := by
  refine MW.enter cX8_canFollow 7 .boolean (by decide) rfl rfl (Nat.le_of_ble_eq_true rfl) ?_
  intro pP eE sS mM aA bB mT cC QQ AA hA hAT hret H locs hP hD hS ls hl
  obtain ⟨hx, hb, hml, hown, hts, hK, hN⟩ := hAT
  have hown : sS.vm.findClass RX8 = some mM.cls := hown
  have hl : lv_has ls 7 [(0, .ref m0), (1, .int (nI set)), (2, .int (nI k)), (3, .int (nI n))] := hl
  have in8 : ∀ w ∈ u_ws RX8 TX8 10, w ∈ wsX8_canFollow := (fun _ h9 => List.mem_cons_of_mem _ (List.mem_append_right _ h9))
  have f7 := hts (.fieldLink RX8 7 "OrphanChainModel" "s" "[I") (List.mem_of_getElem? (i := 1) rfl)
  have hn60 := hW.n60
  have hb10 := hW.b10
  have hs8 := hW.s8
  have hhn := hW.hn
  have h32 := pow5 h5
  refine lv_aload_n hx hb dX8_canFollow_0 rfl (lv_at hl 0 rfl) ?_
  refine lv_aload_n hx hb dX8_canFollow_1 rfl (lv_at hl 0 rfl) ?_
  refine va_get (D := dg) (ci := 8) (v := .ref ms) (C := RX8) (T := TX8) (N := 10) hx hb hts in8 hown hK hP 0 rfl rfl 0 (by decide) f7 (fun _ h9 => h9) rfl dX8_canFollow_2 ?_
  refine lv_iconst (v := (nI 1)) hx hb dX8_canFollow_5 (by decide) ?_
  refine r_iald_n hx hb hK hP 1 rfl (k := 1) (by omega) (by omega) dX8_canFollow_6 ?_
  refine r_top (show (s 1) = (nI (hE s)) from (hW.h)) ?_
  refine call_v (wr := [(pt, .inl (tq.1, 60, .inl pp))]) (va_runV (As := [.int (nI (hE s))]) (rest := []) ⟨hx, hb, hml, hown, hts⟩ (kX8_balances ln dg tq (m0 := m0) (ms := ms) (mw := mw) (mt := mt) (su := su) (pt := pt) (td := td) (wy := wy) (xs := xs) (xt := xt) (xa := xa) (s := s) (f := f) (hW := hW) (y := hE s) (hy := (by omega)) H.size) (cwV 1 hts gX8_canFollow_X8_balances rfl rfl rfl hdX8_balances ⟨Nat.le_of_ble_eq_true rfl, Nat.le_of_ble_eq_true rfl⟩) (preVB hK hN hP hD [0, 1, 2] rfl rfl rfl 0 rfl rfl [.int (nI (hE s))]) rfl rfl hl.1 rfl (lv_room (Nat.le_of_ble_eq_true rfl)) dX8_canFollow_7 ⟨Nat.le_refl _, Nat.le_refl _⟩) hP hD hS hA [0, 1, 2] [3] rfl rfl (by decide) (by decide) (fun u7 H locs hw7 hP hD hS => ?_)
  obtain ⟨g7, rfl⟩ : ∃ z, z = u7 := ⟨_, rfl⟩
  have hP : va_P dg vwCl [(pt, .inl (tq.1, 60, .inl pp)), (m0, .inr (8, [.ref ms, .ref mw, .int xs, .ref mt, .int xt, .int xa, .ref su, .ref pt, .ref td, .ref wy])), (ms, .inl (tq.1, 1445, .inl s)), (su, .inl (tq.1, 6, .inl g7))] H := hP
  have hD : va_D AA [(pt, .inl (tq.1, 60, .inl pp)), (m0, .inr (8, [.ref ms, .ref mw, .int xs, .ref mt, .int xt, .int xa, .ref su, .ref pt, .ref td, .ref wy])), (ms, .inl (tq.1, 1445, .inl s)), (su, .inl (tq.1, 6, .inl g7))] := hD
  refine lv_iconst (v := (nI 0)) hx hb dX8_canFollow_10 (by decide) ?_
  have hl : lv_has ls 7 [(0, .ref m0), (1, .int (nI set)), (2, .int (nI k)), (3, .int (nI (nW s)))] := by have el : (nI n) = (nI (nW s)) := (congrArg nI hn); rw [← el]; exact hl
  refine lv_istore (lv' := [(4, .int (nI 0)), (0, .ref m0), (1, .int (nI set)), (2, .int (nI k)), (3, .int (nI (nW s)))]) hx hb dX8_canFollow_11 hl (by decide) rfl (fun ls hl => ?_)
  have loop13 : ∀ (fu : Nat) (i_ : Nat) (f_ : Row) (H : Heap) (locs : List Loc) (ls : Array Slot), (i_ ≤ nW s ∧ SV f_ (setV s set i_)) → nW s - i_ < fu → va_P dg vwCl [(m0, .inr (8, [.ref ms, .ref mw, .int xs, .ref mt, .int xt, .int xa, .ref su, .ref pt, .ref td, .ref wy])), (ms, .inl (tq.1, 1445, .inl s)), (su, .inl (tq.1, 6, .inl f_)), (pt, .inl (tq.1, 60, .inl pp))] H → va_D AA [(m0, .inr (8, [.ref ms, .ref mw, .int xs, .ref mt, .int xt, .int xa, .ref su, .ref pt, .ref td, .ref wy])), (ms, .inl (tq.1, 1445, .inl s)), (su, .inl (tq.1, 6, .inl f_)), (pt, .inl (tq.1, 60, .inl pp))] → va_S AA sS.heap H locs → lv_has ls 7 [(0, .ref m0), (1, .int (nI set)), (2, .int (nI k)), (3, .int (nI (nW s))), (4, .int (nI i_))] → W pP ln eE (rmm 4 92) sS mM aA bB mT cC H locs 0 0 QQ (F0 mM 13 ls []) := by
    intro fu
    induction fu with
    | zero => intro i_ f_ H locs ls _ hm; exact absurd hm (Nat.not_lt_zero _)
    | succ fu ih13 =>
      intro i_ f_ H locs ls hinv hm hP hD hS hl
      obtain ⟨hi1, hV2⟩ := hinv
      refine lv_iload hx hb dX8_canFollow_13 (lv_at hl 4 rfl) ?_
      refine lv_iload_n hx hb dX8_canFollow_15 rfl (lv_at hl 3 rfl) ?_
      refine r_icmp_ge (tgt := 77) hx hb (nI_tI (by omega)) (nI_tI (by omega)) dX8_canFollow_16 (by decide) (fun c16 => ?_) (fun c16 => ?_)
      · skip
        refine lv_aload_n hx hb dX8_canFollow_77 rfl (lv_at hl 0 rfl) ?_
        refine lv_iload_n hx hb dX8_canFollow_78 rfl (lv_at hl 2 rfl) ?_
        refine call_x (va_runV (As := [.int (nI k)]) (rest := []) ⟨hx, hb, hml, hown, hts⟩ (kX8_waitingAt ln dg tq (m0 := m0) (ms := ms) (mw := mw) (mt := mt) (su := su) (pt := pt) (td := td) (wy := wy) (xs := xs) (xt := xt) (xa := xa) (s := s) (hW := hW) (k := k) (hk := (by omega)) H.size) (cwV 1 hts gX8_canFollow_X8_waitingAt rfl rfl rfl hdX8_waitingAt ⟨Nat.le_of_ble_eq_true rfl, Nat.le_of_ble_eq_true rfl⟩) (preVR hK hN hP [0, 1] rfl 0 rfl rfl [.int (nI k)]) rfl rfl hl.1 rfl (lv_room (Nat.le_of_ble_eq_true rfl)) dX8_canFollow_79 ⟨Nat.le_refl _, Nat.le_refl _⟩) hP hS hA (fun H locs hP hS => ?_)
        obtain ⟨hb1, hb2, hb3⟩ := wB_in (s := s) (k := k) (by omega)
        have hmn := hW.mn60 hb1
        have hV3 : SV f_ (setV s set (nW s)) := by rw [show nW s = i_ by omega]; exact hV2
        refine lv_istore (lv' := [(4, .int (nI (wB s k))), (0, .ref m0), (1, .int (nI set)), (2, .int (nI k)), (3, .int (nI (nW s)))]) hx hb dX8_canFollow_82 hl (by decide) rfl (fun ls hl => ?_)
        refine lv_aload_n hx hb dX8_canFollow_84 rfl (lv_at hl 1 rfl) ?_
        refine lv_iload hx hb dX8_canFollow_85 (lv_at hl 0 rfl) ?_
        refine call_w (wr := []) (va_runV (As := [.int (nI (wB s k))]) (rest := []) ⟨hx, hb, hml, hown, hts⟩ (kX8_tries ln dg tq (m0 := m0) (ms := ms) (mw := mw) (mt := mt) (su := su) (pt := pt) (td := td) (wy := wy) (xs := xs) (xt := xt) (xa := xa) (s := s) (f := f_) (pp := pp) (hW := hW) (b := wB s k) (hb0 := (by omega)) (v := setV s set (nW s)) (hV := hV3) (N := 500000) (hB := hB) (hn9 := (by omega)) H.size) (cwV 1 hts gX8_canFollow_X8_tries rfl rfl rfl hdX8_tries ⟨Nat.le_of_ble_eq_true rfl, Nat.le_of_ble_eq_true rfl⟩) (preVB hK hN hP hD [0, 1, 2, 3] rfl rfl rfl 0 rfl rfl [.int (nI (wB s k))]) rfl rfl hl.1 rfl (lv_room (Nat.le_of_ble_eq_true rfl)) dX8_canFollow_87 ⟨Nat.le_refl _, Nat.le_refl _⟩) hP hD hS hA [0, 1, 2, 3] [] rfl rfl (by decide) (by decide) (fun r87 u87 H locs hw87 hP hD hS => ?_)
        obtain ⟨g87, p287⟩ := u87
        have hP : va_P dg vwCl [(m0, .inr (8, [.ref ms, .ref mw, .int xs, .ref mt, .int xt, .int xa, .ref su, .ref pt, .ref td, .ref wy])), (ms, .inl (tq.1, 1445, .inl s)), (su, .inl (tq.1, 6, .inl g87)), (pt, .inl (tq.1, 60, .inl p287))] H := hP
        have hD : va_D AA [(m0, .inr (8, [.ref ms, .ref mw, .int xs, .ref mt, .int xt, .int xa, .ref su, .ref pt, .ref td, .ref wy])), (ms, .inl (tq.1, 1445, .inl s)), (su, .inl (tq.1, 6, .inl g87)), (pt, .inl (tq.1, 60, .inl p287))] := hD
        obtain ⟨hr87, hw87⟩ := hw87
        subst hr87
        refine r_top (show (nI (trN s (setV s set (nW s)) (brE s (wB s k)) (mn s (wB s k)))) = (nI (trN s (setV s set (nW s)) (brE s (wB s k)) (mn s (wB s k)))) from rfl) ?_
        have htn := trN_le s (setV s set (nW s)) (brE s (wB s k)) (mn s (wB s k))
        refine lv_aload_n hx hb dX8_canFollow_90 rfl (lv_at hl 1 rfl) ?_
        refine lv_iload hx hb dX8_canFollow_91 (lv_at hl 0 rfl) ?_
        refine lv_iconst (v := (nI 1)) hx hb dX8_canFollow_93 (by decide) ?_
        refine call_x (va_runV (As := [.int (nI (wB s k)), .int (nI 1)]) (rest := [.int (nI (trN s (setV s set (nW s)) (brE s (wB s k)) (mn s (wB s k))))]) ⟨hx, hb, hml, hown, hts⟩ (kX8_br ln dg tq (m0 := m0) (ms := ms) (mw := mw) (mt := mt) (su := su) (pt := pt) (td := td) (wy := wy) (xs := xs) (xt := xt) (xa := xa) (s := s) (b := wB s k) (f := 1) (hb0 := (by omega)) (hf := (by omega)) H.size) (cwV 2 hts gX8_canFollow_X8_br rfl rfl rfl hdX8_br ⟨Nat.le_of_ble_eq_true rfl, Nat.le_of_ble_eq_true rfl⟩) (preVR hK hN hP [0, 1] rfl 0 rfl rfl [.int (nI (wB s k)), .int (nI 1)]) rfl rfl hl.1 rfl (lv_room (Nat.le_of_ble_eq_true rfl)) dX8_canFollow_94 ⟨Nat.le_refl _, Nat.le_refl _⟩) hP hS hA (fun H locs hP hS => ?_)
        refine r_top (show (s (425 + 4 * (wB s k) + 1)) = (nI (mn s (wB s k))) from (hW.br (b := (wB s k)) (by omega)).2.2.1) ?_
        refine r_icmp_ne (tgt := 104) hx hb (nI_tI (by omega)) (nI_tI (by omega)) dX8_canFollow_97 (by decide) (fun c97 => ?_) (fun c97 => ?_)
        · skip
          refine lv_iconst (v := (nI 0)) hx hb dX8_canFollow_104 (by decide) ?_
          exact hret (nI 0) (g87, p287) H locs _ ls (show (nI 0) = (bI (canB s set k)) from (by unfold canB; rw [can_eq (fun k hk => by have := brE_in hW hb1 hk; omega)]; first | exact (bI_pos (by omega)).symm | exact (bI_neg (by omega)).symm)) rfl (hP.sub [0, 1, 2, 3] rfl) (hD.sub [0, 1, 2, 3] (by decide) rfl) hS dX8_canFollow_105
        · skip
          refine lv_iconst (v := (nI 1)) hx hb dX8_canFollow_100 (by decide) ?_
          refine lv_goto (tgt := 105) hx hb dX8_canFollow_101 (by decide) ?_
          exact hret (nI 1) (g87, p287) H locs _ ls (show (nI 1) = (bI (canB s set k)) from (by unfold canB; rw [can_eq (fun k hk => by have := brE_in hW hb1 hk; omega)]; first | exact (bI_pos (by omega)).symm | exact (bI_neg (by omega)).symm)) rfl (hP.sub [0, 1, 2, 3] rfl) (hD.sub [0, 1, 2, 3] (by decide) rfl) hS dX8_canFollow_105
      · skip
        refine lv_aload_n hx hb dX8_canFollow_19 rfl (lv_at hl 0 rfl) ?_
        refine lv_iload hx hb dX8_canFollow_20 (lv_at hl 4 rfl) ?_
        refine call_x (va_runV (As := [.int (nI i_)]) (rest := []) ⟨hx, hb, hml, hown, hts⟩ (kX8_waitingAt ln dg tq (m0 := m0) (ms := ms) (mw := mw) (mt := mt) (su := su) (pt := pt) (td := td) (wy := wy) (xs := xs) (xt := xt) (xa := xa) (s := s) (hW := hW) (k := i_) (hk := (by omega)) H.size) (cwV 1 hts gX8_canFollow_X8_waitingAt rfl rfl rfl hdX8_waitingAt ⟨Nat.le_of_ble_eq_true rfl, Nat.le_of_ble_eq_true rfl⟩) (preVR hK hN hP [0, 1] rfl 0 rfl rfl [.int (nI i_)]) rfl rfl hl.1 rfl (lv_room (Nat.le_of_ble_eq_true rfl)) dX8_canFollow_22 ⟨Nat.le_refl _, Nat.le_refl _⟩) hP hS hA (fun H locs hP hS => ?_)
        obtain ⟨hb1, hb2, hb3⟩ := wB_in (s := s) (k := i_) (by omega)
        have hmn := hW.mn60 hb1
        have hm1 := hW.mn1 hb1
        refine lv_istore (lv' := [(5, .int (nI (wB s i_))), (0, .ref m0), (1, .int (nI set)), (2, .int (nI k)), (3, .int (nI (nW s))), (4, .int (nI i_))]) hx hb dX8_canFollow_25 hl (by decide) rfl (fun ls hl => ?_)
        refine lv_iconst (v := (nI 0)) hx hb dX8_canFollow_27 (by decide) ?_
        refine lv_istore (lv' := [(6, .int (nI 0)), (5, .int (nI (wB s i_))), (0, .ref m0), (1, .int (nI set)), (2, .int (nI k)), (3, .int (nI (nW s))), (4, .int (nI i_))]) hx hb dX8_canFollow_28 hl (by decide) rfl (fun ls hl => ?_)
        have loop30 : ∀ (fu : Nat) (j_ : Nat) (h_ : Row) (H : Heap) (locs : List Loc) (ls : Array Slot), (j_ ≤ mn s (wB s i_) ∧ (set.testBit i_ = true ∨ j_ = 0) ∧ SV h_ (allV s (setV s set i_) (brE s (wB s i_)) j_)) → mn s (wB s i_) - j_ < fu → va_P dg vwCl [(m0, .inr (8, [.ref ms, .ref mw, .int xs, .ref mt, .int xt, .int xa, .ref su, .ref pt, .ref td, .ref wy])), (ms, .inl (tq.1, 1445, .inl s)), (su, .inl (tq.1, 6, .inl h_)), (pt, .inl (tq.1, 60, .inl pp))] H → va_D AA [(m0, .inr (8, [.ref ms, .ref mw, .int xs, .ref mt, .int xt, .int xa, .ref su, .ref pt, .ref td, .ref wy])), (ms, .inl (tq.1, 1445, .inl s)), (su, .inl (tq.1, 6, .inl h_)), (pt, .inl (tq.1, 60, .inl pp))] → va_S AA sS.heap H locs → lv_has ls 7 [(0, .ref m0), (1, .int (nI set)), (2, .int (nI k)), (3, .int (nI (nW s))), (4, .int (nI i_)), (5, .int (nI (wB s i_))), (6, .int (nI j_))] → W pP ln eE (rmm 4 92) sS mM aA bB mT cC H locs 0 0 QQ (F0 mM 30 ls []) := by
          intro fu
          induction fu with
          | zero => intro j_ h_ H locs ls _ hm; exact absurd hm (Nat.not_lt_zero _)
          | succ fu ih30 =>
            intro j_ h_ H locs ls hinv hm hP hD hS hl
            obtain ⟨hj1, hj2, hj3⟩ := hinv
            refine lv_iload hx hb dX8_canFollow_30 (lv_at hl 6 rfl) ?_
            refine lv_aload_n hx hb dX8_canFollow_32 rfl (lv_at hl 0 rfl) ?_
            refine lv_iload hx hb dX8_canFollow_33 (lv_at hl 5 rfl) ?_
            refine lv_iconst (v := (nI 1)) hx hb dX8_canFollow_35 (by decide) ?_
            refine call_x (va_runV (As := [.int (nI (wB s i_)), .int (nI 1)]) (rest := [.int (nI j_)]) ⟨hx, hb, hml, hown, hts⟩ (kX8_br ln dg tq (m0 := m0) (ms := ms) (mw := mw) (mt := mt) (su := su) (pt := pt) (td := td) (wy := wy) (xs := xs) (xt := xt) (xa := xa) (s := s) (b := wB s i_) (f := 1) (hb0 := (by omega)) (hf := (by omega)) H.size) (cwV 2 hts gX8_canFollow_X8_br rfl rfl rfl hdX8_br ⟨Nat.le_of_ble_eq_true rfl, Nat.le_of_ble_eq_true rfl⟩) (preVR hK hN hP [0, 1] rfl 0 rfl rfl [.int (nI (wB s i_)), .int (nI 1)]) rfl rfl hl.1 rfl (lv_room (Nat.le_of_ble_eq_true rfl)) dX8_canFollow_36 ⟨Nat.le_refl _, Nat.le_refl _⟩) hP hS hA (fun H locs hP hS => ?_)
            refine r_top (show (s (425 + 4 * (wB s i_) + 1)) = (nI (mn s (wB s i_))) from (hW.br (b := (wB s i_)) (by omega)).2.2.1) ?_
            refine r_icmp_ge (tgt := 71) hx hb (nI_tI (by omega)) (nI_tI (by omega)) dX8_canFollow_39 (by decide) (fun c39 => ?_) (fun c39 => ?_)
            · skip
              refine lv_iinc (v := (nI (i_ + 1))) (lv' := [(4, .int (nI (i_ + 1))), (0, .ref m0), (1, .int (nI set)), (2, .int (nI k)), (3, .int (nI (nW s))), (5, .int (nI (wB s i_))), (6, .int (nI j_))]) hx hb dX8_canFollow_71 hl (k := 4) rfl (nI_add _ _) (by decide) rfl (fun ls hl => ?_)
              refine lv_goto (tgt := 13) hx hb dX8_canFollow_74 (by decide) ?_
              exact ih13 (i_ + 1) h_ H locs ls (⟨by omega, by rcases hj2 with q | q; (rw [show setV s set (i_ + 1) = _ from setV_all s set i_ q, show mn s (wB s i_) = j_ by omega]; exact hj3); (exfalso; omega)⟩) (by omega) (hP.sub [0, 1, 2, 3] rfl) (hD.sub [0, 1, 2, 3] (by decide) rfl) hS (lv_sub hl [1, 2, 3, 4, 0] rfl)
            · skip
              refine lv_iload_n hx hb dX8_canFollow_42 rfl (lv_at hl 1 rfl) ?_
              refine lv_iload hx hb dX8_canFollow_43 (lv_at hl 4 rfl) ?_
              refine lv_ishr hx hb dX8_canFollow_45 ?_
              refine lv_iconst (v := (nI 1)) hx hb dX8_canFollow_46 (by decide) ?_
              refine lv_iand hx hb dX8_canFollow_47 ?_
              refine r_top (show (((nI set) >>> ((nI i_) &&& 31)) &&& (nI 1)) = (bI (set.testBit i_)) from shr8 set (by omega) i_ (by omega)) ?_
              refine lv_iconst (v := (nI 1)) hx hb dX8_canFollow_48 (by decide) ?_
              refine r_icmp_ne (tgt := 71) hx hb rfl (nI_tI (by omega)) dX8_canFollow_49 (by decide) (fun c49 => ?_) (fun c49 => ?_)
              · skip
                have hbf : set.testBit i_ = false := by cases e : set.testBit i_ with
                  | false => rfl
                  | true => rw [e] at c49; exact absurd c49 (by decide)
                refine lv_iinc (v := (nI (i_ + 1))) (lv' := [(4, .int (nI (i_ + 1))), (0, .ref m0), (1, .int (nI set)), (2, .int (nI k)), (3, .int (nI (nW s))), (5, .int (nI (wB s i_))), (6, .int (nI j_))]) hx hb dX8_canFollow_71 hl (k := 4) rfl (nI_add _ _) (by decide) rfl (fun ls hl => ?_)
                refine lv_goto (tgt := 13) hx hb dX8_canFollow_74 (by decide) ?_
                exact ih13 (i_ + 1) h_ H locs ls (⟨by omega, by intro a ha; rw [hj3 a ha, setV, hbf]; rcases hj2 with q | q; (rw [hbf] at q; cases q); (rw [q]; exact congrArg iI (by simp [allV]))⟩) (by omega) (hP.sub [0, 1, 2, 3] rfl) (hD.sub [0, 1, 2, 3] (by decide) rfl) hS (lv_sub hl [1, 2, 3, 4, 0] rfl)
              · skip
                have hbt : set.testBit i_ = true := by cases e : set.testBit i_ with
                  | true => rfl
                  | false => rw [e] at c49; exact absurd c49 (by decide)
                have hbe := brE_in hW hb1 (k := j_) (by omega)
                refine lv_aload_n hx hb dX8_canFollow_52 rfl (lv_at hl 0 rfl) ?_
                refine lv_aload_n hx hb dX8_canFollow_53 rfl (lv_at hl 0 rfl) ?_
                refine lv_iload hx hb dX8_canFollow_54 (lv_at hl 5 rfl) ?_
                refine lv_iload hx hb dX8_canFollow_56 (lv_at hl 6 rfl) ?_
                refine call_x (va_runV (As := [.int (nI (wB s i_)), .int (nI j_)]) (rest := [.ref m0]) ⟨hx, hb, hml, hown, hts⟩ (kX8_ofBranch ln dg tq (m0 := m0) (ms := ms) (mw := mw) (mt := mt) (su := su) (pt := pt) (td := td) (wy := wy) (xs := xs) (xt := xt) (xa := xa) (s := s) (hW := hW) (b := wB s i_) (k := j_) (hb0 := (by omega)) (hk := (by omega)) H.size) (cwV 2 hts gX8_canFollow_X8_ofBranch rfl rfl rfl hdX8_ofBranch ⟨Nat.le_of_ble_eq_true rfl, Nat.le_of_ble_eq_true rfl⟩) (preVR hK hN hP [0, 1] rfl 0 rfl rfl [.int (nI (wB s i_)), .int (nI j_)]) rfl rfl hl.1 rfl (lv_room (Nat.le_of_ble_eq_true rfl)) dX8_canFollow_58 ⟨Nat.le_refl _, Nat.le_refl _⟩) hP hS hA (fun H locs hP hS => ?_)
                refine lv_iconst (v := (nI 1)) hx hb dX8_canFollow_61 (by decide) ?_
                refine call_v (wr := [(pt, .inl (tq.1, 60, .inl pp))]) (va_runV (As := [.int (nI (brE s (wB s i_) j_)), .int (nI 1)]) (rest := []) ⟨hx, hb, hml, hown, hts⟩ (kX8_counts__p ln dg tq (m0 := m0) (ms := ms) (mw := mw) (mt := mt) (su := su) (pt := pt) (td := td) (wy := wy) (xs := xs) (xt := xt) (xa := xa) (s := s) (f := h_) (hW := hW) (v := allV s (setV s set i_) (brE s (wB s i_)) j_) (hV := hj3) (e := brE s (wB s i_) j_) (he := (by omega)) H.size) (cwV 2 hts gX8_canFollow_X8_counts rfl rfl rfl hdX8_counts ⟨Nat.le_of_ble_eq_true rfl, Nat.le_of_ble_eq_true rfl⟩) (preVB hK hN hP hD [0, 1, 2] rfl rfl rfl 0 rfl rfl [.int (nI (brE s (wB s i_) j_)), .int (nI 1)]) rfl rfl hl.1 rfl (lv_room (Nat.le_of_ble_eq_true rfl)) dX8_canFollow_62 ⟨Nat.le_refl _, Nat.le_refl _⟩) hP hD hS hA [0, 1, 2] [3] rfl rfl (by decide) (by decide) (fun u62 H locs hw62 hP hD hS => ?_)
                obtain ⟨g62, rfl⟩ : ∃ z, z = u62 := ⟨_, rfl⟩
                have hP : va_P dg vwCl [(pt, .inl (tq.1, 60, .inl pp)), (m0, .inr (8, [.ref ms, .ref mw, .int xs, .ref mt, .int xt, .int xa, .ref su, .ref pt, .ref td, .ref wy])), (ms, .inl (tq.1, 1445, .inl s)), (su, .inl (tq.1, 6, .inl g62))] H := hP
                have hD : va_D AA [(pt, .inl (tq.1, 60, .inl pp)), (m0, .inr (8, [.ref ms, .ref mw, .int xs, .ref mt, .int xt, .int xa, .ref su, .ref pt, .ref td, .ref wy])), (ms, .inl (tq.1, 1445, .inl s)), (su, .inl (tq.1, 6, .inl g62))] := hD
                refine lv_iinc (v := (nI (j_ + 1))) (lv' := [(6, .int (nI (j_ + 1))), (0, .ref m0), (1, .int (nI set)), (2, .int (nI k)), (3, .int (nI (nW s))), (4, .int (nI i_)), (5, .int (nI (wB s i_)))]) hx hb dX8_canFollow_65 hl (k := 6) rfl (nI_add _ _) (by decide) rfl (fun ls hl => ?_)
                refine lv_goto (tgt := 30) hx hb dX8_canFollow_68 (by decide) ?_
                exact ih30 (j_ + 1) g62 H locs ls (⟨by omega, Or.inl hbt, hw62⟩) (by omega) (hP.sub [1, 2, 3, 0] rfl) (hD.sub [1, 2, 3, 0] (by decide) rfl) hS (lv_sub hl [1, 2, 3, 4, 5, 6, 0] rfl)
        exact loop30 _ 0 f_ H locs ls (⟨by omega, Or.inr rfl, hV2⟩) (Nat.lt_succ_self _) (hP.sub [0, 1, 2, 3] rfl) (hD.sub [0, 1, 2, 3] (by decide) rfl) hS (lv_sub hl [2, 3, 4, 5, 6, 1, 0] rfl)
  exact loop13 _ 0 g7 H locs ls (⟨by omega, hw7⟩) (Nat.lt_succ_self _) (hP.sub [1, 2, 3, 0] rfl) (hD.sub [1, 2, 3, 0] (by decide) rfl) hS (lv_sub hl [1, 2, 3, 4, 0] rfl)
theorem hdX8_orders : yX8_orders.cls = RX8 ∧ yX8_orders.cls ≠ "java/lang/invoke/MethodHandle" ∧ yX8_orders.cls ≠ "java/lang/invoke/VarHandle" ∧ (parseMethodDescriptor yX8_orders.desc).map (fun d => d.parameters.length) = some 0 := by decide +kernel
set_option maxHeartbeats 4000000 in
set_option maxRecDepth 100000 in
theorem kX8_orders (ln : Launch) (dg : va_G) (tq : ClassId × ClassId) (m0 ms mw mt su pt td wy : Nat) (xs xt xa : Int32) (s f pp yy : Row) (hW : WF s) : MW ln yX8_orders wsX8_orders (rmm 5 118) dg tq [.ref m0] [(m0, .inr (8, [.ref ms, .ref mw, .int xs, .ref mt, .int xt, .int xa, .ref su, .ref pt, .ref td, .ref wy])), (ms, .inl (tq.1, 1445, .inl s)), (su, .inl (tq.1, 6, .inl f)), (pt, .inl (tq.1, 60, .inl pp)), (wy, .inl (tq.1, 32, .inl yy))] (fun (r : Int32) (u : Row × Row × Row) => r = (orR s)) (fun u => [(m0, .inr (8, [.ref ms, .ref mw, .int xs, .ref mt, .int xt, .int xa, .ref su, .ref pt, .ref td, .ref wy])), (ms, .inl (tq.1, 1445, .inl s)), (su, .inl (tq.1, 6, .inl u.1)), (pt, .inl (tq.1, 60, .inl u.2.1)), (wy, .inl (tq.1, 32, .inl u.2.2))]) := by
  refine MW.enter cX8_orders 4 .int (by decide) rfl rfl (Nat.le_of_ble_eq_true rfl) ?_
  intro pP eE sS mM aA bB mT cC QQ AA hA hAT hret H locs hP hD hS ls hl
  obtain ⟨hx, hb, hml, hown, hts, hK, hN⟩ := hAT
  have hown : sS.vm.findClass RX8 = some mM.cls := hown
  have hl : lv_has ls 4 [(0, .ref m0)] := hl
  have in8 : ∀ w ∈ u_ws RX8 TX8 10, w ∈ wsX8_orders := (fun _ h9 => List.mem_cons_of_mem _ (List.mem_append_right _ h9))
  have f29 := hts (.fieldLink RX8 29 "OrphanChainModel" "ways" "[I") (List.mem_of_getElem? (i := 2) rfl)
  have k32 := hts (.constant RX8 32 (-100009)) (List.mem_of_getElem? (i := 1) rfl)
  have hn60 := hW.n60
  have hb10 := hW.b10
  have hs8 := hW.s8
  have hhn := hW.hn
  have hnw : nW s ≤ nB s := cntF_le _ _
  refine lv_aload_n hx hb dX8_orders_0 rfl (lv_at hl 0 rfl) ?_
  refine call_x (va_runV (As := []) (rest := []) ⟨hx, hb, hml, hown, hts⟩ (kX8_waiting ln dg tq (m0 := m0) (ms := ms) (mw := mw) (mt := mt) (su := su) (pt := pt) (td := td) (wy := wy) (xs := xs) (xt := xt) (xa := xa) (s := s) (hW := hW) H.size) (cwV 0 hts gX8_orders_X8_waiting rfl rfl rfl hdX8_waiting ⟨Nat.le_of_ble_eq_true rfl, Nat.le_of_ble_eq_true rfl⟩) (preVR hK hN hP [0, 1] rfl 0 rfl rfl []) rfl rfl hl.1 rfl (lv_room (Nat.le_of_ble_eq_true rfl)) dX8_orders_1 ⟨Nat.le_refl _, Nat.le_refl _⟩) hP hS hA (fun H locs hP hS => ?_)
  refine r_top (show (nI (cntF (waitB s) (nB s))) = (nI (nW s)) from rfl) ?_
  refine lv_istore_n (lv' := [(1, .int (nI (nW s))), (0, .ref m0)]) hx hb dX8_orders_4 rfl hl (by decide) rfl (fun ls hl => ?_)
  refine lv_iload_n hx hb dX8_orders_5 rfl (lv_at hl 0 rfl) ?_
  refine lv_iconst (v := (nI 5)) hx hb dX8_orders_6 (by decide) ?_
  refine r_icmp_le (tgt := 13) hx hb (nI_tI (by omega)) (nI_tI (by omega)) dX8_orders_7 (by decide) (fun c7 => ?_) (fun c7 => ?_)
  · skip
    have h5 : nW s ≤ 5 := by omega
    have h32 := pow5 h5
    have hpp : 0 < 2 ^ nW s := Nat.pos_of_ne_zero (by simp)
    refine lv_iconst (v := (nI 0)) hx hb dX8_orders_13 (by decide) ?_
    refine lv_istore_n (lv' := [(2, .int (nI 0)), (1, .int (nI (nW s))), (0, .ref m0)]) hx hb dX8_orders_14 rfl hl (by decide) rfl (fun ls hl => ?_)
    have loop15 : ∀ (fu : Nat) (i_ : Nat) (y_ : Row) (H : Heap) (locs : List Loc) (ls : Array Slot), (i_ ≤ 32 ∧ ∀ i, i < i_ → y_ i = ord0 i) → 32 - i_ < fu → va_P dg vwCl [(m0, .inr (8, [.ref ms, .ref mw, .int xs, .ref mt, .int xt, .int xa, .ref su, .ref pt, .ref td, .ref wy])), (ms, .inl (tq.1, 1445, .inl s)), (su, .inl (tq.1, 6, .inl f)), (pt, .inl (tq.1, 60, .inl pp)), (wy, .inl (tq.1, 32, .inl y_))] H → va_D AA [(m0, .inr (8, [.ref ms, .ref mw, .int xs, .ref mt, .int xt, .int xa, .ref su, .ref pt, .ref td, .ref wy])), (ms, .inl (tq.1, 1445, .inl s)), (su, .inl (tq.1, 6, .inl f)), (pt, .inl (tq.1, 60, .inl pp)), (wy, .inl (tq.1, 32, .inl y_))] → va_S AA sS.heap H locs → lv_has ls 4 [(0, .ref m0), (1, .int (nI (nW s))), (2, .int (nI i_))] → W pP ln eE (rmm 5 118) sS mM aA bB mT cC H locs 0 0 QQ (F0 mM 15 ls []) := by
      intro fu
      induction fu with
      | zero => intro i_ y_ H locs ls _ hm; exact absurd hm (Nat.not_lt_zero _)
      | succ fu ih15 =>
        intro i_ y_ H locs ls hinv hm hP hD hS hl
        obtain ⟨hi1, hi2⟩ := hinv
        refine lv_iload_n hx hb dX8_orders_15 rfl (lv_at hl 2 rfl) ?_
        refine lv_bipush (v := (nI 32)) hx hb dX8_orders_16 (by decide) ?_
        refine r_icmp_ge (tgt := 42) hx hb (nI_tI (by omega)) (nI_tI (by omega)) dX8_orders_18 (by decide) (fun c18 => ?_) (fun c18 => ?_)
        · skip
          refine lv_iconst (v := (nI 0)) hx hb dX8_orders_42 (by decide) ?_
          refine lv_istore_n (lv' := [(2, .int (nI 0)), (0, .ref m0), (1, .int (nI (nW s)))]) hx hb dX8_orders_43 rfl hl (by decide) rfl (fun ls hl => ?_)
          have loop44 : ∀ (fu : Nat) (t_ : Nat) (y_ : Row) (f_ : Row) (p_ : Row) (H : Heap) (locs : List Loc) (ls : Array Slot), (t_ ≤ 2 ^ nW s ∧ ∀ i, i < 32 → y_ i = ordS s t_ i) → 2 ^ nW s - t_ < fu → va_P dg vwCl [(m0, .inr (8, [.ref ms, .ref mw, .int xs, .ref mt, .int xt, .int xa, .ref su, .ref pt, .ref td, .ref wy])), (ms, .inl (tq.1, 1445, .inl s)), (su, .inl (tq.1, 6, .inl f_)), (pt, .inl (tq.1, 60, .inl p_)), (wy, .inl (tq.1, 32, .inl y_))] H → va_D AA [(m0, .inr (8, [.ref ms, .ref mw, .int xs, .ref mt, .int xt, .int xa, .ref su, .ref pt, .ref td, .ref wy])), (ms, .inl (tq.1, 1445, .inl s)), (su, .inl (tq.1, 6, .inl f_)), (pt, .inl (tq.1, 60, .inl p_)), (wy, .inl (tq.1, 32, .inl y_))] → va_S AA sS.heap H locs → lv_has ls 4 [(0, .ref m0), (1, .int (nI (nW s))), (2, .int (nI t_))] → W pP ln eE (rmm 5 118) sS mM aA bB mT cC H locs 0 0 QQ (F0 mM 44 ls []) := by
            intro fu
            induction fu with
            | zero => intro t_ y_ f_ p_ H locs ls _ hm; exact absurd hm (Nat.not_lt_zero _)
            | succ fu ih44 =>
              intro t_ y_ f_ p_ H locs ls hinv hm hP hD hS hl
              obtain ⟨hi1, hi2⟩ := hinv
              refine lv_iload_n hx hb dX8_orders_44 rfl (lv_at hl 2 rfl) ?_
              refine lv_iconst (v := (nI 1)) hx hb dX8_orders_45 (by decide) ?_
              refine lv_iload_n hx hb dX8_orders_46 rfl (lv_at hl 1 rfl) ?_
              refine lv_ishl hx hb dX8_orders_47 ?_
              refine r_top (show ((nI 1) <<< ((nI (nW s)) &&& 31)) = (nI (2 ^ nW s)) from shl1 _ (by omega)) ?_
              refine r_icmp_ge (tgt := 116) hx hb (nI_tI (by omega)) (nI_tI (by omega)) dX8_orders_48 (by decide) (fun c48 => ?_) (fun c48 => ?_)
              · skip
                refine lv_aload_n hx hb dX8_orders_116 rfl (lv_at hl 0 rfl) ?_
                refine va_get (D := dg) (ci := 8) (v := .ref wy) (C := RX8) (T := TX8) (N := 10) hx hb hts in8 hown hK hP 0 rfl rfl 9 (by decide) f29 (fun _ h9 => h9) rfl dX8_orders_117 ?_
                refine lv_iconst (v := (nI 1)) hx hb dX8_orders_120 (by decide) ?_
                refine lv_iload_n hx hb dX8_orders_121 rfl (lv_at hl 1 rfl) ?_
                refine lv_ishl hx hb dX8_orders_122 ?_
                refine r_top (show ((nI 1) <<< ((nI (nW s)) &&& 31)) = (nI (2 ^ nW s)) from shl1 _ (by omega)) ?_
                refine lv_iconst (v := (nI 1)) hx hb dX8_orders_123 (by decide) ?_
                refine r_isub_n hx hb (by omega) dX8_orders_124 ?_
                refine r_iald_n hx hb hK hP 4 rfl (k := ((2 ^ nW s) - 1)) (by omega) (by omega) dX8_orders_125 ?_
                exact hret (y_ ((2 ^ nW s) - 1)) (f_, p_, y_) H locs _ ls (show (y_ ((2 ^ nW s) - 1)) = (orR s) from (by unfold orR; rw [if_neg (by show ¬ 5 < nW s; omega), hi2 _ (by omega), show t_ = 2 ^ nW s by omega])) rfl (hP.sub [0, 1, 2, 3, 4] rfl) (hD.sub [0, 1, 2, 3, 4] (by decide) rfl) hS dX8_orders_126
              · skip
                refine lv_iconst (v := (nI 0)) hx hb dX8_orders_51 (by decide) ?_
                refine lv_istore_n (lv' := [(3, .int (nI 0)), (0, .ref m0), (1, .int (nI (nW s))), (2, .int (nI t_))]) hx hb dX8_orders_52 rfl hl (by decide) rfl (fun ls hl => ?_)
                have loop53 : ∀ (fu : Nat) (k_ : Nat) (z_ : Row) (g_ : Row) (q_ : Row) (H : Heap) (locs : List Loc) (ls : Array Slot), (k_ ≤ nW s ∧ ∀ i, i < 32 → z_ i = ordK s (ordS s t_) t_ k_ i) → nW s - k_ < fu → va_P dg vwCl [(m0, .inr (8, [.ref ms, .ref mw, .int xs, .ref mt, .int xt, .int xa, .ref su, .ref pt, .ref td, .ref wy])), (ms, .inl (tq.1, 1445, .inl s)), (su, .inl (tq.1, 6, .inl g_)), (pt, .inl (tq.1, 60, .inl q_)), (wy, .inl (tq.1, 32, .inl z_))] H → va_D AA [(m0, .inr (8, [.ref ms, .ref mw, .int xs, .ref mt, .int xt, .int xa, .ref su, .ref pt, .ref td, .ref wy])), (ms, .inl (tq.1, 1445, .inl s)), (su, .inl (tq.1, 6, .inl g_)), (pt, .inl (tq.1, 60, .inl q_)), (wy, .inl (tq.1, 32, .inl z_))] → va_S AA sS.heap H locs → lv_has ls 4 [(0, .ref m0), (1, .int (nI (nW s))), (2, .int (nI t_)), (3, .int (nI k_))] → W pP ln eE (rmm 5 118) sS mM aA bB mT cC H locs 0 0 QQ (F0 mM 53 ls []) := by
                  intro fu
                  induction fu with
                  | zero => intro k_ z_ g_ q_ H locs ls _ hm; exact absurd hm (Nat.not_lt_zero _)
                  | succ fu ih53 =>
                    intro k_ z_ g_ q_ H locs ls hinv hm hP hD hS hl
                    obtain ⟨hj1, hj2⟩ := hinv
                    refine lv_iload_n hx hb dX8_orders_53 rfl (lv_at hl 3 rfl) ?_
                    refine lv_iload_n hx hb dX8_orders_54 rfl (lv_at hl 1 rfl) ?_
                    refine r_icmp_ge (tgt := 110) hx hb (nI_tI (by omega)) (nI_tI (by omega)) dX8_orders_55 (by decide) (fun c55 => ?_) (fun c55 => ?_)
                    · skip
                      refine lv_iinc (v := (nI (t_ + 1))) (lv' := [(2, .int (nI (t_ + 1))), (0, .ref m0), (1, .int (nI (nW s))), (3, .int (nI k_))]) hx hb dX8_orders_110 hl (k := 2) rfl (nI_add _ _) (by decide) rfl (fun ls hl => ?_)
                      refine lv_goto (tgt := 44) hx hb dX8_orders_113 (by decide) ?_
                      exact ih44 (t_ + 1) z_ g_ q_ H locs ls (⟨by omega, fun i hi => by rw [hj2 i hi, show k_ = nW s by omega]; rfl⟩) (by omega) (hP.sub [0, 1, 2, 3, 4] rfl) (hD.sub [0, 1, 2, 3, 4] (by decide) rfl) hS (lv_sub hl [1, 2, 0] rfl)
                    · skip
                      refine lv_aload_n hx hb dX8_orders_58 rfl (lv_at hl 0 rfl) ?_
                      refine va_get (D := dg) (ci := 8) (v := .ref wy) (C := RX8) (T := TX8) (N := 10) hx hb hts in8 hown hK hP 0 rfl rfl 9 (by decide) f29 (fun _ h9 => h9) rfl dX8_orders_59 ?_
                      refine lv_iload_n hx hb dX8_orders_62 rfl (lv_at hl 2 rfl) ?_
                      refine r_iald_n hx hb hK hP 4 rfl (k := t_) (by omega) (by omega) dX8_orders_63 ?_
                      refine r_if_le (tgt := 110) hx hb rfl dX8_orders_64 (by decide) (fun c64 => ?_) (fun c64 => ?_)
                      · skip
                        refine lv_iinc (v := (nI (t_ + 1))) (lv' := [(2, .int (nI (t_ + 1))), (0, .ref m0), (1, .int (nI (nW s))), (3, .int (nI k_))]) hx hb dX8_orders_110 hl (k := 2) rfl (nI_add _ _) (by decide) rfl (fun ls hl => ?_)
                        refine lv_goto (tgt := 44) hx hb dX8_orders_113 (by decide) ?_
                        exact ih44 (t_ + 1) z_ g_ q_ H locs ls (⟨by omega, fun i hi => by have e1 : ¬ 0 < (ordS s t_ t_).toInt := (by have e2 := hj2 t_ (by omega); rw [ordK_set] at e2; rw [← e2]; omega); rw [hj2 i hi, ordS, ordK_no e1, ordK_no e1]⟩) (by omega) (hP.sub [0, 1, 2, 3, 4] rfl) (hD.sub [0, 1, 2, 3, 4] (by decide) rfl) hS (lv_sub hl [1, 2, 0] rfl)
                      · skip
                        have hor := or_lt (set := t_) (n := nW s) (by omega) (k := k_) (by omega)
                        refine lv_iload_n hx hb dX8_orders_67 rfl (lv_at hl 2 rfl) ?_
                        refine lv_iload_n hx hb dX8_orders_68 rfl (lv_at hl 3 rfl) ?_
                        refine lv_ishr hx hb dX8_orders_69 ?_
                        refine lv_iconst (v := (nI 1)) hx hb dX8_orders_70 (by decide) ?_
                        refine lv_iand hx hb dX8_orders_71 ?_
                        refine r_top (show (((nI t_) >>> ((nI k_) &&& 31)) &&& (nI 1)) = (bI (t_.testBit k_)) from shr8 t_ (by omega) k_ (by omega)) ?_
                        refine r_if_ne_b (tgt := 104) hx hb dX8_orders_72 (by decide) (fun c72 => ?_) (fun c72 => ?_)
                        · skip
                          refine lv_iinc (v := (nI (k_ + 1))) (lv' := [(3, .int (nI (k_ + 1))), (0, .ref m0), (1, .int (nI (nW s))), (2, .int (nI t_))]) hx hb dX8_orders_104 hl (k := 3) rfl (nI_add _ _) (by decide) rfl (fun ls hl => ?_)
                          refine lv_goto (tgt := 53) hx hb dX8_orders_107 (by decide) ?_
                          exact ih53 (k_ + 1) z_ g_ q_ H locs ls (⟨by omega, fun i hi => by rw [hj2 i hi, ordK, stepK, if_neg (fun z => by rw [c72] at z; cases z.1)]⟩) (by omega) (hP.sub [0, 1, 2, 3, 4] rfl) (hD.sub [0, 1, 2, 3, 4] (by decide) rfl) hS (lv_sub hl [1, 2, 3, 0] rfl)
                        · skip
                          refine lv_aload_n hx hb dX8_orders_75 rfl (lv_at hl 0 rfl) ?_
                          refine lv_iload_n hx hb dX8_orders_76 rfl (lv_at hl 2 rfl) ?_
                          refine lv_iload_n hx hb dX8_orders_77 rfl (lv_at hl 3 rfl) ?_
                          refine lv_iload_n hx hb dX8_orders_78 rfl (lv_at hl 1 rfl) ?_
                          refine call_w (wr := [(wy, .inl (tq.1, 32, .inl z_))]) (va_runV (As := [.int (nI t_), .int (nI k_), .int (nI (nW s))]) (rest := []) ⟨hx, hb, hml, hown, hts⟩ (kX8_canFollow ln dg tq (m0 := m0) (ms := ms) (mw := mw) (mt := mt) (su := su) (pt := pt) (td := td) (wy := wy) (xs := xs) (xt := xt) (xa := xa) (s := s) (f := g_) (pp := q_) (hW := hW) (set := t_) (k := k_) (n := nW s) (hn := rfl) (h5 := (by omega)) (hk := (by omega)) (hset := (by omega)) (hB := (ordS_ok hW h5 hi1 t_ (by omega) (fun z => by have e2 := hj2 t_ (by omega); rw [ordK_set, z] at e2; rw [e2] at c64; exact absurd c64 (by decide)))) H.size) (cwV 3 hts gX8_orders_X8_canFollow rfl rfl rfl hdX8_canFollow ⟨Nat.le_of_ble_eq_true rfl, Nat.le_of_ble_eq_true rfl⟩) (preVB hK hN hP hD [0, 1, 2, 3] rfl rfl rfl 0 rfl rfl [.int (nI t_), .int (nI k_), .int (nI (nW s))]) rfl rfl hl.1 rfl (lv_room (Nat.le_of_ble_eq_true rfl)) dX8_orders_79 ⟨Nat.le_refl _, Nat.le_refl _⟩) hP hD hS hA [0, 1, 2, 3] [4] rfl rfl (by decide) (by decide) (fun r79 u79 H locs hw79 hP hD hS => ?_)
                          obtain ⟨f279, p279⟩ := u79
                          have hP : va_P dg vwCl [(wy, .inl (tq.1, 32, .inl z_)), (m0, .inr (8, [.ref ms, .ref mw, .int xs, .ref mt, .int xt, .int xa, .ref su, .ref pt, .ref td, .ref wy])), (ms, .inl (tq.1, 1445, .inl s)), (su, .inl (tq.1, 6, .inl f279)), (pt, .inl (tq.1, 60, .inl p279))] H := hP
                          have hD : va_D AA [(wy, .inl (tq.1, 32, .inl z_)), (m0, .inr (8, [.ref ms, .ref mw, .int xs, .ref mt, .int xt, .int xa, .ref su, .ref pt, .ref td, .ref wy])), (ms, .inl (tq.1, 1445, .inl s)), (su, .inl (tq.1, 6, .inl f279)), (pt, .inl (tq.1, 60, .inl p279))] := hD
                          subst hw79
                          refine r_if_eq_b (tgt := 104) hx hb dX8_orders_82 (by decide) (fun c82 => ?_) (fun c82 => ?_)
                          · skip
                            refine lv_iinc (v := (nI (k_ + 1))) (lv' := [(3, .int (nI (k_ + 1))), (0, .ref m0), (1, .int (nI (nW s))), (2, .int (nI t_))]) hx hb dX8_orders_104 hl (k := 3) rfl (nI_add _ _) (by decide) rfl (fun ls hl => ?_)
                            refine lv_goto (tgt := 53) hx hb dX8_orders_107 (by decide) ?_
                            exact ih53 (k_ + 1) z_ f279 p279 H locs ls (⟨by omega, fun i hi => by rw [hj2 i hi, ordK, stepK, if_neg (fun z => by rw [c82] at z; cases z.2.2)]⟩) (by omega) (hP.sub [1, 2, 3, 4, 0] rfl) (hD.sub [1, 2, 3, 4, 0] (by decide) rfl) hS (lv_sub hl [1, 2, 3, 0] rfl)
                          · skip
                            refine lv_aload_n hx hb dX8_orders_85 rfl (lv_at hl 0 rfl) ?_
                            refine va_get (D := dg) (ci := 8) (v := .ref wy) (C := RX8) (T := TX8) (N := 10) hx hb hts in8 hown hK hP 1 rfl rfl 9 (by decide) f29 (fun _ h9 => h9) rfl dX8_orders_86 ?_
                            refine lv_iload_n hx hb dX8_orders_89 rfl (lv_at hl 2 rfl) ?_
                            refine lv_iconst (v := (nI 1)) hx hb dX8_orders_90 (by decide) ?_
                            refine lv_iload_n hx hb dX8_orders_91 rfl (lv_at hl 3 rfl) ?_
                            refine lv_ishl hx hb dX8_orders_92 ?_
                            refine r_top (show ((nI 1) <<< ((nI k_) &&& 31)) = (nI (2 ^ k_)) from shl1 k_ (by omega)) ?_
                            refine lv_ior hx hb dX8_orders_93 ?_
                            refine r_top (show ((nI t_) ||| (nI (2 ^ k_))) = (nI (t_ ||| 2 ^ k_)) from or32 _ (by omega) _ (by omega)) ?_
                            refine lv_dup2_11 hx hb dX8_orders_94 rfl rfl ?_
                            refine r_iald_n hx hb hK hP 0 rfl (k := (t_ ||| 2 ^ k_)) (by omega) (by omega) dX8_orders_95 ?_
                            refine lv_aload_n hx hb dX8_orders_96 rfl (lv_at hl 0 rfl) ?_
                            refine va_get (D := dg) (ci := 8) (v := .ref wy) (C := RX8) (T := TX8) (N := 10) hx hb hts in8 hown hK hP 1 rfl rfl 9 (by decide) f29 (fun _ h9 => h9) rfl dX8_orders_97 ?_
                            refine lv_iload_n hx hb dX8_orders_100 rfl (lv_at hl 2 rfl) ?_
                            refine r_iald_n hx hb hK hP 0 rfl (k := t_) (by omega) (by omega) dX8_orders_101 ?_
                            refine lv_iadd hx hb dX8_orders_102 ?_
                            refine r_iast_n hx hb hK hP hD hS 0 rfl (k := (t_ ||| 2 ^ k_)) (by omega) (by omega) dX8_orders_103 (fun H locs hP hD hS => ?_)
                            have hP : va_P dg vwCl [(wy, .inl (tq.1, 32, .inl (upd z_ (t_ ||| 2 ^ k_) ((z_ (t_ ||| 2 ^ k_)) + (z_ t_))))), (m0, .inr (8, [.ref ms, .ref mw, .int xs, .ref mt, .int xt, .int xa, .ref su, .ref pt, .ref td, .ref wy])), (ms, .inl (tq.1, 1445, .inl s)), (su, .inl (tq.1, 6, .inl f279)), (pt, .inl (tq.1, 60, .inl p279))] H := hP
                            have hD : va_D AA [(wy, .inl (tq.1, 32, .inl (upd z_ (t_ ||| 2 ^ k_) ((z_ (t_ ||| 2 ^ k_)) + (z_ t_))))), (m0, .inr (8, [.ref ms, .ref mw, .int xs, .ref mt, .int xt, .int xa, .ref su, .ref pt, .ref td, .ref wy])), (ms, .inl (tq.1, 1445, .inl s)), (su, .inl (tq.1, 6, .inl f279)), (pt, .inl (tq.1, 60, .inl p279))] := hD
                            refine lv_iinc (v := (nI (k_ + 1))) (lv' := [(3, .int (nI (k_ + 1))), (0, .ref m0), (1, .int (nI (nW s))), (2, .int (nI t_))]) hx hb dX8_orders_104 hl (k := 3) rfl (nI_add _ _) (by decide) rfl (fun ls hl => ?_)
                            refine lv_goto (tgt := 53) hx hb dX8_orders_107 (by decide) ?_
                            exact ih53 (k_ + 1) (upd z_ (t_ ||| 2 ^ k_) ((z_ (t_ ||| 2 ^ k_)) + (z_ t_))) f279 p279 H locs ls (⟨by omega, fun i hi => by rw [ordK, stepK, if_pos ⟨c72, by rw [← hj2 t_ (by omega)]; omega, c82⟩]; by_cases e0 : i = t_ ||| 2 ^ k_; (rw [e0, pk_us, pk_us, hj2 _ (by omega), hj2 _ (by omega)]); (rw [pk_un e0, pk_un e0, hj2 i hi])⟩) (by omega) (hP.sub [1, 2, 3, 4, 0] rfl) (hD.sub [1, 2, 3, 4, 0] (by decide) rfl) hS (lv_sub hl [1, 2, 3, 0] rfl)
                exact loop53 _ 0 y_ f_ p_ H locs ls (⟨by omega, fun i hi => hi2 i hi⟩) (Nat.lt_succ_self _) (hP.sub [0, 1, 2, 3, 4] rfl) (hD.sub [0, 1, 2, 3, 4] (by decide) rfl) hS (lv_sub hl [1, 2, 3, 0] rfl)
          exact loop44 _ 0 y_ f pp H locs ls (⟨by omega, fun i hi => hi2 i (by omega)⟩) (Nat.lt_succ_self _) (hP.sub [0, 1, 2, 3, 4] rfl) (hD.sub [0, 1, 2, 3, 4] (by decide) rfl) hS (lv_sub hl [1, 2, 0] rfl)
        · skip
          refine lv_aload_n hx hb dX8_orders_21 rfl (lv_at hl 0 rfl) ?_
          refine va_get (D := dg) (ci := 8) (v := .ref wy) (C := RX8) (T := TX8) (N := 10) hx hb hts in8 hown hK hP 0 rfl rfl 9 (by decide) f29 (fun _ h9 => h9) rfl dX8_orders_22 ?_
          refine lv_iload_n hx hb dX8_orders_25 rfl (lv_at hl 2 rfl) ?_
          refine lv_iload_n hx hb dX8_orders_26 rfl (lv_at hl 2 rfl) ?_
          refine r_if_ne (tgt := 34) hx hb (nI_tI (by omega)) dX8_orders_27 (by decide) (fun c27 => ?_) (fun c27 => ?_)
          · skip
            refine lv_iconst (v := (nI 0)) hx hb dX8_orders_34 (by decide) ?_
            refine r_iast_n hx hb hK hP hD hS 4 rfl (k := i_) (by omega) (by omega) dX8_orders_35 (fun H locs hP hD hS => ?_)
            have hP : va_P dg vwCl [(m0, .inr (8, [.ref ms, .ref mw, .int xs, .ref mt, .int xt, .int xa, .ref su, .ref pt, .ref td, .ref wy])), (ms, .inl (tq.1, 1445, .inl s)), (su, .inl (tq.1, 6, .inl f)), (pt, .inl (tq.1, 60, .inl pp)), (wy, .inl (tq.1, 32, .inl (upd y_ i_ (nI 0))))] H := hP
            have hD : va_D AA [(m0, .inr (8, [.ref ms, .ref mw, .int xs, .ref mt, .int xt, .int xa, .ref su, .ref pt, .ref td, .ref wy])), (ms, .inl (tq.1, 1445, .inl s)), (su, .inl (tq.1, 6, .inl f)), (pt, .inl (tq.1, 60, .inl pp)), (wy, .inl (tq.1, 32, .inl (upd y_ i_ (nI 0))))] := hD
            refine lv_iinc (v := (nI (i_ + 1))) (lv' := [(2, .int (nI (i_ + 1))), (0, .ref m0), (1, .int (nI (nW s)))]) hx hb dX8_orders_36 hl (k := 2) rfl (nI_add _ _) (by decide) rfl (fun ls hl => ?_)
            refine lv_goto (tgt := 15) hx hb dX8_orders_39 (by decide) ?_
            exact ih15 (i_ + 1) (upd y_ i_ (nI 0)) H locs ls (⟨by omega, fun i h => by by_cases e0 : i = i_; (rw [e0, pk_us]; exact (if_neg (by omega)).symm); (rw [pk_un e0]; exact hi2 i (by omega))⟩) (by omega) (hP.sub [0, 1, 2, 3, 4] rfl) (hD.sub [0, 1, 2, 3, 4] (by decide) rfl) hS (lv_sub hl [1, 2, 0] rfl)
          · skip
            refine lv_iconst (v := (nI 1)) hx hb dX8_orders_30 (by decide) ?_
            refine lv_goto (tgt := 35) hx hb dX8_orders_31 (by decide) ?_
            refine r_iast_n hx hb hK hP hD hS 4 rfl (k := i_) (by omega) (by omega) dX8_orders_35 (fun H locs hP hD hS => ?_)
            have hP : va_P dg vwCl [(m0, .inr (8, [.ref ms, .ref mw, .int xs, .ref mt, .int xt, .int xa, .ref su, .ref pt, .ref td, .ref wy])), (ms, .inl (tq.1, 1445, .inl s)), (su, .inl (tq.1, 6, .inl f)), (pt, .inl (tq.1, 60, .inl pp)), (wy, .inl (tq.1, 32, .inl (upd y_ i_ (nI 1))))] H := hP
            have hD : va_D AA [(m0, .inr (8, [.ref ms, .ref mw, .int xs, .ref mt, .int xt, .int xa, .ref su, .ref pt, .ref td, .ref wy])), (ms, .inl (tq.1, 1445, .inl s)), (su, .inl (tq.1, 6, .inl f)), (pt, .inl (tq.1, 60, .inl pp)), (wy, .inl (tq.1, 32, .inl (upd y_ i_ (nI 1))))] := hD
            refine lv_iinc (v := (nI (i_ + 1))) (lv' := [(2, .int (nI (i_ + 1))), (0, .ref m0), (1, .int (nI (nW s)))]) hx hb dX8_orders_36 hl (k := 2) rfl (nI_add _ _) (by decide) rfl (fun ls hl => ?_)
            refine lv_goto (tgt := 15) hx hb dX8_orders_39 (by decide) ?_
            exact ih15 (i_ + 1) (upd y_ i_ (nI 1)) H locs ls (⟨by omega, fun i h => by by_cases e0 : i = i_; (rw [e0, pk_us]; exact (if_pos (by omega)).symm); (rw [pk_un e0]; exact hi2 i (by omega))⟩) (by omega) (hP.sub [0, 1, 2, 3, 4] rfl) (hD.sub [0, 1, 2, 3, 4] (by decide) rfl) hS (lv_sub hl [1, 2, 0] rfl)
    exact loop15 _ 0 yy H locs ls (⟨by omega, fun i h => absurd h (Nat.not_lt_zero i)⟩) (Nat.lt_succ_self _) (hP.sub [0, 1, 2, 3, 4] rfl) (hD.sub [0, 1, 2, 3, 4] (by decide) rfl) hS (lv_sub hl [2, 1, 0] rfl)
  · skip
    refine lv_ldc hx hb hown k32 dX8_orders_10 ?_
    exact hret (-100009) (f, pp, yy) H locs _ ls (show (-100009) = (orR s) from (by unfold orR; rw [if_pos (by show 5 < nW s; omega)])) rfl (hP.sub [0, 1, 2, 3, 4] rfl) (hD.sub [0, 1, 2, 3, 4] (by decide) rfl) hS dX8_orders_12
