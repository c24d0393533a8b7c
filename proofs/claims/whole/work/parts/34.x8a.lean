theorem hdX8_in : yX8_in.cls = RX8 ∧ yX8_in.cls ≠ "java/lang/invoke/MethodHandle" ∧ yX8_in.cls ≠ "java/lang/invoke/VarHandle" ∧ (parseMethodDescriptor yX8_in.desc).map (fun d => d.parameters.length) = some 3 := by decide +kernel
set_option maxHeartbeats 4000000 in
set_option maxRecDepth 100000 in
theorem kX8_in (ln : Launch) (dg : va_G) (tq : ClassId × ClassId) (v lo hi : Int32) : MR ln yX8_in wsX8_in (rmm 0 0) dg tq [.int v, .int lo, .int hi] [] (fun r => r = (bI (inR v lo hi))) := by
  refine MR.enter cX8_in 3 .boolean (by decide) rfl rfl (Nat.le_of_ble_eq_true rfl) ?_
  intro pP eE sS mM aA bB mT cC QQ AA hA hAT hret H locs hP hS ls hl
  obtain ⟨hx, hb, hml, hown, hts, hK, hN⟩ := hAT
  have hown : sS.vm.findClass RX8 = some mM.cls := hown
  have hl : lv_has ls 3 [(0, .int v), (1, .int lo), (2, .int hi)] := hl
  refine lv_iload_n hx hb dX8_in_0 rfl (lv_at hl 0 rfl) ?_
  refine lv_iload_n hx hb dX8_in_1 rfl (lv_at hl 1 rfl) ?_
  refine r_icmp_lt (tgt := 14) hx hb rfl rfl dX8_in_2 (by decide) (fun c2 => ?_) (fun c2 => ?_)
  · skip
    refine lv_iconst (v := (nI 0)) hx hb dX8_in_14 (by decide) ?_
    exact hret (nI 0) H locs _ ls (by first | exact (bI_pos (by omega)).symm | exact (bI_neg (by omega)).symm) rfl hS dX8_in_15
  · skip
    refine lv_iload_n hx hb dX8_in_5 rfl (lv_at hl 0 rfl) ?_
    refine lv_iload_n hx hb dX8_in_6 rfl (lv_at hl 2 rfl) ?_
    refine r_icmp_gt (tgt := 14) hx hb rfl rfl dX8_in_7 (by decide) (fun c7 => ?_) (fun c7 => ?_)
    · skip
      refine lv_iconst (v := (nI 0)) hx hb dX8_in_14 (by decide) ?_
      exact hret (nI 0) H locs _ ls (by first | exact (bI_pos (by omega)).symm | exact (bI_neg (by omega)).symm) rfl hS dX8_in_15
    · skip
      refine lv_iconst (v := (nI 1)) hx hb dX8_in_10 (by decide) ?_
      refine lv_goto (tgt := 15) hx hb dX8_in_11 (by decide) ?_
      exact hret (nI 1) H locs _ ls (by first | exact (bI_pos (by omega)).symm | exact (bI_neg (by omega)).symm) rfl hS dX8_in_15
theorem hdX8_en : yX8_en.cls = RX8 ∧ yX8_en.cls ≠ "java/lang/invoke/MethodHandle" ∧ yX8_en.cls ≠ "java/lang/invoke/VarHandle" ∧ (parseMethodDescriptor yX8_en.desc).map (fun d => d.parameters.length) = some 2 := by decide +kernel
set_option maxHeartbeats 4000000 in
set_option maxRecDepth 100000 in
theorem kX8_en (ln : Launch) (dg : va_G) (tq : ClassId × ClassId) (m0 ms mw mt su pt td wy : Nat) (xs xt xa : Int32) (s : Row) (e f : Nat) (he : e < 60) (hf : f < 7) : MR ln yX8_en wsX8_en (rmm 0 0) dg tq [.ref m0, .int (nI e), .int (nI f)] [(m0, .inr (8, [.ref ms, .ref mw, .int xs, .ref mt, .int xt, .int xa, .ref su, .ref pt, .ref td, .ref wy])), (ms, .inl (tq.1, 1445, .inl s))] (fun r => r = (s (5 + 7 * e + f))) := by
  refine MR.enter cX8_en 3 .int (by decide) rfl rfl (Nat.le_of_ble_eq_true rfl) ?_
  intro pP eE sS mM aA bB mT cC QQ AA hA hAT hret H locs hP hS ls hl
  obtain ⟨hx, hb, hml, hown, hts, hK, hN⟩ := hAT
  have hown : sS.vm.findClass RX8 = some mM.cls := hown
  have hl : lv_has ls 3 [(0, .ref m0), (1, .int (nI e)), (2, .int (nI f))] := hl
  have in8 : ∀ w ∈ u_ws RX8 TX8 10, w ∈ wsX8_en := (fun _ h9 => List.mem_cons_of_mem _ (List.mem_append_right _ h9))
  have f7 := hts (.fieldLink RX8 7 "OrphanChainModel" "s" "[I") (List.mem_of_getElem? (i := 1) rfl)
  refine lv_aload_n hx hb dX8_en_0 rfl (lv_at hl 0 rfl) ?_
  refine va_get (D := dg) (ci := 8) (v := .ref ms) (C := RX8) (T := TX8) (N := 10) hx hb hts in8 hown hK hP 0 rfl rfl 0 (by decide) f7 (fun _ h9 => h9) rfl dX8_en_1 ?_
  refine lv_iconst (v := (nI 5)) hx hb dX8_en_4 (by decide) ?_
  refine lv_bipush (v := (nI 7)) hx hb dX8_en_5 (by decide) ?_
  refine lv_iload_n hx hb dX8_en_7 rfl (lv_at hl 1 rfl) ?_
  refine r_imul_n hx hb dX8_en_8 ?_
  refine r_iadd_n hx hb dX8_en_9 ?_
  refine lv_iload_n hx hb dX8_en_10 rfl (lv_at hl 2 rfl) ?_
  refine r_iadd_n hx hb dX8_en_11 ?_
  refine r_iald_n hx hb hK hP 1 rfl (k := ((5 + (7 * e)) + f)) (by omega) (by omega) dX8_en_12 ?_
  exact hret (s ((5 + (7 * e)) + f)) H locs _ ls (rfl) rfl hS dX8_en_13
theorem hdX8_br : yX8_br.cls = RX8 ∧ yX8_br.cls ≠ "java/lang/invoke/MethodHandle" ∧ yX8_br.cls ≠ "java/lang/invoke/VarHandle" ∧ (parseMethodDescriptor yX8_br.desc).map (fun d => d.parameters.length) = some 2 := by decide +kernel
set_option maxHeartbeats 4000000 in
set_option maxRecDepth 100000 in
theorem kX8_br (ln : Launch) (dg : va_G) (tq : ClassId × ClassId) (m0 ms mw mt su pt td wy : Nat) (xs xt xa : Int32) (s : Row) (b f : Nat) (hb0 : b < 10) (hf : f < 4) : MR ln yX8_br wsX8_br (rmm 0 0) dg tq [.ref m0, .int (nI b), .int (nI f)] [(m0, .inr (8, [.ref ms, .ref mw, .int xs, .ref mt, .int xt, .int xa, .ref su, .ref pt, .ref td, .ref wy])), (ms, .inl (tq.1, 1445, .inl s))] (fun r => r = (s (425 + 4 * b + f))) := by
  refine MR.enter cX8_br 3 .int (by decide) rfl rfl (Nat.le_of_ble_eq_true rfl) ?_
  intro pP eE sS mM aA bB mT cC QQ AA hA hAT hret H locs hP hS ls hl
  obtain ⟨hx, hb, hml, hown, hts, hK, hN⟩ := hAT
  have hown : sS.vm.findClass RX8 = some mM.cls := hown
  have hl : lv_has ls 3 [(0, .ref m0), (1, .int (nI b)), (2, .int (nI f))] := hl
  have in8 : ∀ w ∈ u_ws RX8 TX8 10, w ∈ wsX8_br := (fun _ h9 => List.mem_cons_of_mem _ (List.mem_append_right _ h9))
  have f7 := hts (.fieldLink RX8 7 "OrphanChainModel" "s" "[I") (List.mem_of_getElem? (i := 1) rfl)
  refine lv_aload_n hx hb dX8_br_0 rfl (lv_at hl 0 rfl) ?_
  refine va_get (D := dg) (ci := 8) (v := .ref ms) (C := RX8) (T := TX8) (N := 10) hx hb hts in8 hown hK hP 0 rfl rfl 0 (by decide) f7 (fun _ h9 => h9) rfl dX8_br_1 ?_
  refine lv_sipush (v := (nI 425)) hx hb dX8_br_4 (by decide) ?_
  refine lv_iconst (v := (nI 4)) hx hb dX8_br_7 (by decide) ?_
  refine lv_iload_n hx hb dX8_br_8 rfl (lv_at hl 1 rfl) ?_
  refine r_imul_n hx hb dX8_br_9 ?_
  refine r_iadd_n hx hb dX8_br_10 ?_
  refine lv_iload_n hx hb dX8_br_11 rfl (lv_at hl 2 rfl) ?_
  refine r_iadd_n hx hb dX8_br_12 ?_
  refine r_iald_n hx hb hK hP 1 rfl (k := ((425 + (4 * b)) + f)) (by omega) (by omega) dX8_br_13 ?_
  exact hret (s ((425 + (4 * b)) + f)) H locs _ ls (rfl) rfl hS dX8_br_14
theorem hdX8_isEntry : yX8_isEntry.cls = RX8 ∧ yX8_isEntry.cls ≠ "java/lang/invoke/MethodHandle" ∧ yX8_isEntry.cls ≠ "java/lang/invoke/VarHandle" ∧ (parseMethodDescriptor yX8_isEntry.desc).map (fun d => d.parameters.length) = some 1 := by decide +kernel
set_option maxHeartbeats 4000000 in
set_option maxRecDepth 100000 in
theorem kX8_isEntry (ln : Launch) (dg : va_G) (tq : ClassId × ClassId) (m0 ms mw mt su pt td wy : Nat) (xs xt xa : Int32) (s : Row) (hW : WF s) (x : Int32) : MR ln yX8_isEntry wsX8_isEntry (rmm 1 22) dg tq [.ref m0, .int x] [(m0, .inr (8, [.ref ms, .ref mw, .int xs, .ref mt, .int xt, .int xa, .ref su, .ref pt, .ref td, .ref wy])), (ms, .inl (tq.1, 1445, .inl s))] (fun r => r = (bI (hasN x (nE s)))) := by
  refine MR.enter cX8_isEntry 2 .boolean (by decide) rfl rfl (Nat.le_of_ble_eq_true rfl) ?_
  intro pP eE sS mM aA bB mT cC QQ AA hA hAT hret H locs hP hS ls hl
  obtain ⟨hx, hb, hml, hown, hts, hK, hN⟩ := hAT
  have hown : sS.vm.findClass RX8 = some mM.cls := hown
  have hl : lv_has ls 2 [(0, .ref m0), (1, .int x)] := hl
  have in8 : ∀ w ∈ u_ws RX8 TX8 10, w ∈ wsX8_isEntry := (fun _ h9 => List.mem_cons_of_mem _ (List.mem_append_right _ h9))
  have f7 := hts (.fieldLink RX8 7 "OrphanChainModel" "s" "[I") (List.mem_of_getElem? (i := 1) rfl)
  have hn60 := hW.n60
  have hb10 := hW.b10
  have hs8 := hW.s8
  have hhn := hW.hn
  refine lv_iload_n hx hb dX8_isEntry_0 rfl (lv_at hl 1 rfl) ?_
  refine lv_iconst (v := (nI 0)) hx hb dX8_isEntry_1 (by decide) ?_
  refine lv_aload_n hx hb dX8_isEntry_2 rfl (lv_at hl 0 rfl) ?_
  refine va_get (D := dg) (ci := 8) (v := .ref ms) (C := RX8) (T := TX8) (N := 10) hx hb hts in8 hown hK hP 0 rfl rfl 0 (by decide) f7 (fun _ h9 => h9) rfl dX8_isEntry_3 ?_
  refine lv_iconst (v := (nI 0)) hx hb dX8_isEntry_6 (by decide) ?_
  refine r_iald_n hx hb hK hP 1 rfl (k := 0) (by omega) (by omega) dX8_isEntry_7 ?_
  refine r_top (show (s 0) = (nI (nE s)) from (hW.n)) ?_
  refine lv_iconst (v := (nI 1)) hx hb dX8_isEntry_8 (by decide) ?_
  refine r_isub_z hx hb (nI_iI _) (nI_iI _) dX8_isEntry_9 ?_
  refine call_x (va_runS (As := [.int x, .int (nI 0), .int (iI (((nE s : Nat) : Int) - ((1 : Nat) : Int)))]) (rest := []) ⟨hx, hb, hml, hown, hts⟩ (kX8_in ln dg tq (v := x) (lo := (nI 0)) (hi := (iI (((nE s : Nat) : Int) - ((1 : Nat) : Int)))) H.size) (va_cwS 3 hts gX8_isEntry_X8_in rfl rfl rfl hdX8_in.2 ⟨Nat.le_of_ble_eq_true rfl, Nat.le_of_ble_eq_true rfl⟩) (preS0 hK hN [.int x, .int (nI 0), .int (iI (((nE s : Nat) : Int) - ((1 : Nat) : Int)))]) rfl rfl hl.1 rfl (lv_room (Nat.le_of_ble_eq_true rfl)) dX8_isEntry_10 ⟨Nat.le_refl _, Nat.le_refl _⟩) hP hS hA (fun H locs hP hS => ?_)
  exact hret (bI (inR x (nI 0) (iI (((nE s : Nat) : Int) - ((1 : Nat) : Int))))) H locs _ ls (by rw [inR_has (by omega)]) (narrow_bI _) hS dX8_isEntry_13
theorem hdX8_isBranch : yX8_isBranch.cls = RX8 ∧ yX8_isBranch.cls ≠ "java/lang/invoke/MethodHandle" ∧ yX8_isBranch.cls ≠ "java/lang/invoke/VarHandle" ∧ (parseMethodDescriptor yX8_isBranch.desc).map (fun d => d.parameters.length) = some 1 := by decide +kernel
set_option maxHeartbeats 4000000 in
set_option maxRecDepth 100000 in
theorem kX8_isBranch (ln : Launch) (dg : va_G) (tq : ClassId × ClassId) (m0 ms mw mt su pt td wy : Nat) (xs xt xa : Int32) (s : Row) (hW : WF s) (x : Int32) : MR ln yX8_isBranch wsX8_isBranch (rmm 1 22) dg tq [.ref m0, .int x] [(m0, .inr (8, [.ref ms, .ref mw, .int xs, .ref mt, .int xt, .int xa, .ref su, .ref pt, .ref td, .ref wy])), (ms, .inl (tq.1, 1445, .inl s))] (fun r => r = (bI (hasN x (nB s)))) := by
  refine MR.enter cX8_isBranch 2 .boolean (by decide) rfl rfl (Nat.le_of_ble_eq_true rfl) ?_
  intro pP eE sS mM aA bB mT cC QQ AA hA hAT hret H locs hP hS ls hl
  obtain ⟨hx, hb, hml, hown, hts, hK, hN⟩ := hAT
  have hown : sS.vm.findClass RX8 = some mM.cls := hown
  have hl : lv_has ls 2 [(0, .ref m0), (1, .int x)] := hl
  have in8 : ∀ w ∈ u_ws RX8 TX8 10, w ∈ wsX8_isBranch := (fun _ h9 => List.mem_cons_of_mem _ (List.mem_append_right _ h9))
  have f7 := hts (.fieldLink RX8 7 "OrphanChainModel" "s" "[I") (List.mem_of_getElem? (i := 1) rfl)
  have hn60 := hW.n60
  have hb10 := hW.b10
  have hs8 := hW.s8
  have hhn := hW.hn
  refine lv_iload_n hx hb dX8_isBranch_0 rfl (lv_at hl 1 rfl) ?_
  refine lv_iconst (v := (nI 0)) hx hb dX8_isBranch_1 (by decide) ?_
  refine lv_aload_n hx hb dX8_isBranch_2 rfl (lv_at hl 0 rfl) ?_
  refine va_get (D := dg) (ci := 8) (v := .ref ms) (C := RX8) (T := TX8) (N := 10) hx hb hts in8 hown hK hP 0 rfl rfl 0 (by decide) f7 (fun _ h9 => h9) rfl dX8_isBranch_3 ?_
  refine lv_iconst (v := (nI 2)) hx hb dX8_isBranch_6 (by decide) ?_
  refine r_iald_n hx hb hK hP 1 rfl (k := 2) (by omega) (by omega) dX8_isBranch_7 ?_
  refine r_top (show (s 2) = (nI (nB s)) from (hW.b)) ?_
  refine lv_iconst (v := (nI 1)) hx hb dX8_isBranch_8 (by decide) ?_
  refine r_isub_z hx hb (nI_iI _) (nI_iI _) dX8_isBranch_9 ?_
  refine call_x (va_runS (As := [.int x, .int (nI 0), .int (iI (((nB s : Nat) : Int) - ((1 : Nat) : Int)))]) (rest := []) ⟨hx, hb, hml, hown, hts⟩ (kX8_in ln dg tq (v := x) (lo := (nI 0)) (hi := (iI (((nB s : Nat) : Int) - ((1 : Nat) : Int)))) H.size) (va_cwS 3 hts gX8_isBranch_X8_in rfl rfl rfl hdX8_in.2 ⟨Nat.le_of_ble_eq_true rfl, Nat.le_of_ble_eq_true rfl⟩) (preS0 hK hN [.int x, .int (nI 0), .int (iI (((nB s : Nat) : Int) - ((1 : Nat) : Int)))]) rfl rfl hl.1 rfl (lv_room (Nat.le_of_ble_eq_true rfl)) dX8_isBranch_10 ⟨Nat.le_refl _, Nat.le_refl _⟩) hP hS hA (fun H locs hP hS => ?_)
  exact hret (bI (inR x (nI 0) (iI (((nB s : Nat) : Int) - ((1 : Nat) : Int))))) H locs _ ls (by rw [inR_has (by omega)]) (narrow_bI _) hS dX8_isBranch_13
theorem hdX8_depth : yX8_depth.cls = RX8 ∧ yX8_depth.cls ≠ "java/lang/invoke/MethodHandle" ∧ yX8_depth.cls ≠ "java/lang/invoke/VarHandle" ∧ (parseMethodDescriptor yX8_depth.desc).map (fun d => d.parameters.length) = some 1 := by decide +kernel
set_option maxHeartbeats 4000000 in
set_option maxRecDepth 100000 in
theorem kX8_depth (ln : Launch) (dg : va_G) (tq : ClassId × ClassId) (m0 ms mw mt su pt td wy : Nat) (xs xt xa : Int32) (s : Row) (hW : WF s) (y : Nat) (hy : y < nE s) : MR ln yX8_depth wsX8_depth (rmm 1 22) dg tq [.ref m0, .int (nI y)] [(m0, .inr (8, [.ref ms, .ref mw, .int xs, .ref mt, .int xt, .int xa, .ref su, .ref pt, .ref td, .ref wy])), (ms, .inl (tq.1, 1445, .inl s))] (fun r => r = (nI (dep s y))) := by
  refine MR.enter cX8_depth 4 .int (by decide) rfl rfl (Nat.le_of_ble_eq_true rfl) ?_
  intro pP eE sS mM aA bB mT cC QQ AA hA hAT hret H locs hP hS ls hl
  obtain ⟨hx, hb, hml, hown, hts, hK, hN⟩ := hAT
  have hown : sS.vm.findClass RX8 = some mM.cls := hown
  have hl : lv_has ls 4 [(0, .ref m0), (1, .int (nI y))] := hl
  have hn60 := hW.n60
  have hb10 := hW.b10
  have hs8 := hW.s8
  have hhn := hW.hn
  refine lv_iconst (v := (nI 1)) hx hb dX8_depth_0 (by decide) ?_
  refine lv_istore_n (lv' := [(2, .int (nI 1)), (0, .ref m0), (1, .int (nI y))]) hx hb dX8_depth_1 rfl hl (by decide) rfl (fun ls hl => ?_)
  refine lv_iload_n hx hb dX8_depth_2 rfl (lv_at hl 2 rfl) ?_
  refine lv_istore_n (lv' := [(3, .int (nI y)), (2, .int (nI 1)), (0, .ref m0), (1, .int (nI y))]) hx hb dX8_depth_3 rfl hl (by decide) rfl (fun ls hl => ?_)
  have loop4 : ∀ (fu : Nat) (at_ : Nat) (n_ : Nat) (H : Heap) (locs : List Loc) (ls : Array Slot), (dep s y + 1 = n_ + dep s at_ ∧ at_ ≤ y) → at_ < fu → va_P dg vwCl [(m0, .inr (8, [.ref ms, .ref mw, .int xs, .ref mt, .int xt, .int xa, .ref su, .ref pt, .ref td, .ref wy])), (ms, .inl (tq.1, 1445, .inl s))] H → va_S AA sS.heap H locs → lv_has ls 4 [(0, .ref m0), (1, .int (nI y)), (2, .int (nI n_)), (3, .int (nI at_))] → W pP ln eE (rmm 1 22) sS mM aA bB mT cC H locs 0 0 QQ (F0 mM 4 ls []) := by
    intro fu
    induction fu with
    | zero => intro at_ n_ H locs ls _ hm; exact absurd hm (Nat.not_lt_zero _)
    | succ fu ih4 =>
      intro at_ n_ H locs ls hinv hm hP hS hl
      obtain ⟨hi1, hi2⟩ := hinv
      refine lv_iload_n hx hb dX8_depth_4 rfl (lv_at hl 3 rfl) ?_
      refine r_if_le (tgt := 21) hx hb (nI_tI (by omega)) dX8_depth_5 (by decide) (fun c5 => ?_) (fun c5 => ?_)
      · skip
        refine lv_iload_n hx hb dX8_depth_21 rfl (lv_at hl 2 rfl) ?_
        exact hret (nI n_) H locs _ ls (by have e0 : at_ = 0 := (by omega); subst e0; rw [dep_0] at hi1; congr 1; omega) rfl hS dX8_depth_22
      · skip
        refine lv_iinc (v := (nI (n_ + 1))) (lv' := [(2, .int (nI (n_ + 1))), (0, .ref m0), (1, .int (nI y)), (3, .int (nI at_))]) hx hb dX8_depth_8 hl (k := 2) rfl (nI_add _ _) (by decide) rfl (fun ls hl => ?_)
        refine lv_aload_n hx hb dX8_depth_11 rfl (lv_at hl 1 rfl) ?_
        refine lv_iload_n hx hb dX8_depth_12 rfl (lv_at hl 3 rfl) ?_
        refine lv_iconst (v := (nI 0)) hx hb dX8_depth_13 (by decide) ?_
        refine call_x (va_runV (As := [.int (nI at_), .int (nI 0)]) (rest := []) ⟨hx, hb, hml, hown, hts⟩ (kX8_en ln dg tq (m0 := m0) (ms := ms) (mw := mw) (mt := mt) (su := su) (pt := pt) (td := td) (wy := wy) (xs := xs) (xt := xt) (xa := xa) (s := s) (e := at_) (f := 0) (he := (by omega)) (hf := (by omega)) H.size) (cwV 2 hts gX8_depth_X8_en rfl rfl rfl hdX8_en ⟨Nat.le_of_ble_eq_true rfl, Nat.le_of_ble_eq_true rfl⟩) (preVR hK hN hP [0, 1] rfl 0 rfl rfl [.int (nI at_), .int (nI 0)]) rfl rfl hl.1 rfl (lv_room (Nat.le_of_ble_eq_true rfl)) dX8_depth_14 ⟨Nat.le_refl _, Nat.le_refl _⟩) hP hS hA (fun H locs hP hS => ?_)
        refine r_top (show (s (5 + 7 * at_ + 0)) = (nI (pa s at_)) from hW.p (by omega) (by omega)) ?_
        refine lv_istore_n (lv' := [(3, .int (nI (pa s at_))), (2, .int (nI (n_ + 1))), (0, .ref m0), (1, .int (nI y))]) hx hb dX8_depth_17 rfl hl (by decide) rfl (fun ls hl => ?_)
        refine lv_goto (tgt := 4) hx hb dX8_depth_18 (by decide) ?_
        exact ih4 (pa s at_) (n_ + 1) H locs ls (⟨by have hds := dep_s hW (e := at_) (by omega) (by omega); omega, by have hpl := hW.pl (e := at_) (by omega) (by omega); omega⟩) (by have hpl := hW.pl (e := at_) (by omega) (by omega); omega) (hP.sub [0, 1] rfl) hS (lv_sub hl [2, 3, 1, 0] rfl)
  exact loop4 _ y 1 H locs ls (⟨by omega, by omega⟩) (Nat.lt_succ_self _) (hP.sub [0, 1] rfl) hS (lv_sub hl [2, 3, 1, 0] rfl)
theorem hdX8_above : yX8_above.cls = RX8 ∧ yX8_above.cls ≠ "java/lang/invoke/MethodHandle" ∧ yX8_above.cls ≠ "java/lang/invoke/VarHandle" ∧ (parseMethodDescriptor yX8_above.desc).map (fun d => d.parameters.length) = some 2 := by decide +kernel
set_option maxHeartbeats 4000000 in
set_option maxRecDepth 100000 in
theorem kX8_above (ln : Launch) (dg : va_G) (tq : ClassId × ClassId) (m0 ms mw mt su pt td wy : Nat) (xs xt xa : Int32) (s : Row) (hW : WF s) (y k : Nat) (hy : y < nE s) (hk : k < dep s y) : MR ln yX8_above wsX8_above (rmm 1 22) dg tq [.ref m0, .int (nI y), .int (nI k)] [(m0, .inr (8, [.ref ms, .ref mw, .int xs, .ref mt, .int xt, .int xa, .ref su, .ref pt, .ref td, .ref wy])), (ms, .inl (tq.1, 1445, .inl s))] (fun r => r = (nI (up s y k))) := by
  refine MR.enter cX8_above 5 .int (by decide) rfl rfl (Nat.le_of_ble_eq_true rfl) ?_
  intro pP eE sS mM aA bB mT cC QQ AA hA hAT hret H locs hP hS ls hl
  obtain ⟨hx, hb, hml, hown, hts, hK, hN⟩ := hAT
  have hown : sS.vm.findClass RX8 = some mM.cls := hown
  have hl : lv_has ls 5 [(0, .ref m0), (1, .int (nI y)), (2, .int (nI k))] := hl
  have hn60 := hW.n60
  have hb10 := hW.b10
  have hs8 := hW.s8
  have hhn := hW.hn
  have hdl := dep_le hW y hy
  refine lv_iload_n hx hb dX8_above_0 rfl (lv_at hl 1 rfl) ?_
  refine lv_istore_n (lv' := [(3, .int (nI y)), (0, .ref m0), (1, .int (nI y)), (2, .int (nI k))]) hx hb dX8_above_1 rfl hl (by decide) rfl (fun ls hl => ?_)
  refine lv_iconst (v := (nI 0)) hx hb dX8_above_2 (by decide) ?_
  refine lv_istore (lv' := [(4, .int (nI 0)), (3, .int (nI y)), (0, .ref m0), (1, .int (nI y)), (2, .int (nI k))]) hx hb dX8_above_3 hl (by decide) rfl (fun ls hl => ?_)
  have loop5 : ∀ (fu : Nat) (j_ : Nat) (H : Heap) (locs : List Loc) (ls : Array Slot), (j_ ≤ k) → k - j_ < fu → va_P dg vwCl [(m0, .inr (8, [.ref ms, .ref mw, .int xs, .ref mt, .int xt, .int xa, .ref su, .ref pt, .ref td, .ref wy])), (ms, .inl (tq.1, 1445, .inl s))] H → va_S AA sS.heap H locs → lv_has ls 5 [(0, .ref m0), (1, .int (nI y)), (2, .int (nI k)), (3, .int (nI (up s y j_))), (4, .int (nI j_))] → W pP ln eE (rmm 1 22) sS mM aA bB mT cC H locs 0 0 QQ (F0 mM 5 ls []) := by
    intro fu
    induction fu with
    | zero => intro j_ H locs ls _ hm; exact absurd hm (Nat.not_lt_zero _)
    | succ fu ih5 =>
      intro j_ H locs ls hinv hm hP hS hl
      refine lv_iload hx hb dX8_above_5 (lv_at hl 4 rfl) ?_
      refine lv_iload_n hx hb dX8_above_7 rfl (lv_at hl 2 rfl) ?_
      refine r_icmp_ge (tgt := 24) hx hb (nI_tI (by omega)) (nI_tI (by omega)) dX8_above_8 (by decide) (fun c8 => ?_) (fun c8 => ?_)
      · skip
        refine lv_iload_n hx hb dX8_above_24 rfl (lv_at hl 3 rfl) ?_
        exact hret (nI (up s y j_)) H locs _ ls (by rw [show k = j_ by omega]) rfl hS dX8_above_25
      · skip
        have hup := up_in hW j_ y hy (by omega)
        have hup0 := up_pos hW j_ y hy (by omega)
        refine lv_aload_n hx hb dX8_above_11 rfl (lv_at hl 0 rfl) ?_
        refine lv_iload_n hx hb dX8_above_12 rfl (lv_at hl 3 rfl) ?_
        refine lv_iconst (v := (nI 0)) hx hb dX8_above_13 (by decide) ?_
        refine call_x (va_runV (As := [.int (nI (up s y j_)), .int (nI 0)]) (rest := []) ⟨hx, hb, hml, hown, hts⟩ (kX8_en ln dg tq (m0 := m0) (ms := ms) (mw := mw) (mt := mt) (su := su) (pt := pt) (td := td) (wy := wy) (xs := xs) (xt := xt) (xa := xa) (s := s) (e := up s y j_) (f := 0) (he := (by omega)) (hf := (by omega)) H.size) (cwV 2 hts gX8_above_X8_en rfl rfl rfl hdX8_en ⟨Nat.le_of_ble_eq_true rfl, Nat.le_of_ble_eq_true rfl⟩) (preVR hK hN hP [0, 1] rfl 0 rfl rfl [.int (nI (up s y j_)), .int (nI 0)]) rfl rfl hl.1 rfl (lv_room (Nat.le_of_ble_eq_true rfl)) dX8_above_14 ⟨Nat.le_refl _, Nat.le_refl _⟩) hP hS hA (fun H locs hP hS => ?_)
        refine r_top (show (s (5 + 7 * (up s y j_) + 0)) = (nI (pa s (up s y j_))) from hW.p (by omega) (by omega)) ?_
        refine lv_istore_n (lv' := [(3, .int (nI (pa s (up s y j_)))), (0, .ref m0), (1, .int (nI y)), (2, .int (nI k)), (4, .int (nI j_))]) hx hb dX8_above_17 rfl hl (by decide) rfl (fun ls hl => ?_)
        refine lv_iinc (v := (nI (j_ + 1))) (lv' := [(4, .int (nI (j_ + 1))), (3, .int (nI (pa s (up s y j_)))), (0, .ref m0), (1, .int (nI y)), (2, .int (nI k))]) hx hb dX8_above_18 hl (k := 4) rfl (nI_add _ _) (by decide) rfl (fun ls hl => ?_)
        have hl : lv_has ls 5 [(4, .int (nI (j_ + 1))), (3, .int (nI (up s y (j_ + 1)))), (0, .ref m0), (1, .int (nI y)), (2, .int (nI k))] := by have el : (nI (pa s (up s y j_))) = (nI (up s y (j_ + 1))) := (by rw [up_s]); rw [← el]; exact hl
        refine lv_goto (tgt := 5) hx hb dX8_above_21 (by decide) ?_
        exact ih5 (j_ + 1) H locs ls (by omega) (by omega) (hP.sub [0, 1] rfl) hS (lv_sub hl [2, 3, 4, 1, 0] rfl)
  exact loop5 _ 0 H locs ls (by omega) (Nat.lt_succ_self _) (hP.sub [0, 1] rfl) hS (lv_sub hl [2, 3, 4, 1, 0] rfl)
theorem hdX8_isOnPath : yX8_isOnPath.cls = RX8 ∧ yX8_isOnPath.cls ≠ "java/lang/invoke/MethodHandle" ∧ yX8_isOnPath.cls ≠ "java/lang/invoke/VarHandle" ∧ (parseMethodDescriptor yX8_isOnPath.desc).map (fun d => d.parameters.length) = some 2 := by decide +kernel
set_option maxHeartbeats 4000000 in
set_option maxRecDepth 100000 in
theorem kX8_isOnPath (ln : Launch) (dg : va_G) (tq : ClassId × ClassId) (m0 ms mw mt su pt td wy : Nat) (xs xt xa : Int32) (s : Row) (hW : WF s) (x y : Nat) (hx : x < nE s) (hy : y < nE s) : MR ln yX8_isOnPath wsX8_isOnPath (rmm 1 22) dg tq [.ref m0, .int (nI x), .int (nI y)] [(m0, .inr (8, [.ref ms, .ref mw, .int xs, .ref mt, .int xt, .int xa, .ref su, .ref pt, .ref td, .ref wy])), (ms, .inl (tq.1, 1445, .inl s))] (fun r => r = (bI (onP s x y))) := by
  refine MR.enter cX8_isOnPath 4 .boolean (by decide) rfl rfl (Nat.le_of_ble_eq_true rfl) ?_
  intro pP eE sS mM aA bB mT cC QQ AA hA hAT hret H locs hP hS ls hl
  obtain ⟨hx, hb, hml, hown, hts, hK, hN⟩ := hAT
  have hown : sS.vm.findClass RX8 = some mM.cls := hown
  have hl : lv_has ls 4 [(0, .ref m0), (1, .int (nI x)), (2, .int (nI y))] := hl
  have hn60 := hW.n60
  have hb10 := hW.b10
  have hs8 := hW.s8
  have hhn := hW.hn
  refine lv_iload_n hx hb dX8_isOnPath_0 rfl (lv_at hl 2 rfl) ?_
  refine lv_istore_n (lv' := [(3, .int (nI y)), (0, .ref m0), (1, .int (nI x)), (2, .int (nI y))]) hx hb dX8_isOnPath_1 rfl hl (by decide) rfl (fun ls hl => ?_)
  have loop2 : ∀ (fu : Nat) (at_ : Nat) (H : Heap) (locs : List Loc) (ls : Array Slot), (onP s x y = onP s x at_ ∧ at_ ≤ y) → at_ < fu → va_P dg vwCl [(m0, .inr (8, [.ref ms, .ref mw, .int xs, .ref mt, .int xt, .int xa, .ref su, .ref pt, .ref td, .ref wy])), (ms, .inl (tq.1, 1445, .inl s))] H → va_S AA sS.heap H locs → lv_has ls 4 [(0, .ref m0), (1, .int (nI x)), (2, .int (nI y)), (3, .int (nI at_))] → W pP ln eE (rmm 1 22) sS mM aA bB mT cC H locs 0 0 QQ (F0 mM 2 ls []) := by
    intro fu
    induction fu with
    | zero => intro at_ H locs ls _ hm; exact absurd hm (Nat.not_lt_zero _)
    | succ fu ih2 =>
      intro at_ H locs ls hinv hm hP hS hl
      obtain ⟨hi1, hi2⟩ := hinv
      refine lv_iload_n hx hb dX8_isOnPath_2 rfl (lv_at hl 3 rfl) ?_
      refine lv_iload_n hx hb dX8_isOnPath_3 rfl (lv_at hl 1 rfl) ?_
      refine r_icmp_le (tgt := 17) hx hb (nI_tI (by omega)) (nI_tI (by omega)) dX8_isOnPath_4 (by decide) (fun c4 => ?_) (fun c4 => ?_)
      · skip
        refine lv_iload_n hx hb dX8_isOnPath_17 rfl (lv_at hl 3 rfl) ?_
        refine lv_iload_n hx hb dX8_isOnPath_18 rfl (lv_at hl 1 rfl) ?_
        refine r_icmp_ne (tgt := 26) hx hb (nI_tI (by omega)) (nI_tI (by omega)) dX8_isOnPath_19 (by decide) (fun c19 => ?_) (fun c19 => ?_)
        · skip
          refine lv_iconst (v := (nI 0)) hx hb dX8_isOnPath_26 (by decide) ?_
          exact hret (nI 0) H locs _ ls (by rw [hi1, onP_le (by omega)]; first | exact (bI_pos (by omega)).symm | exact (bI_neg (by omega)).symm) rfl hS dX8_isOnPath_27
        · skip
          refine lv_iconst (v := (nI 1)) hx hb dX8_isOnPath_22 (by decide) ?_
          refine lv_goto (tgt := 27) hx hb dX8_isOnPath_23 (by decide) ?_
          exact hret (nI 1) H locs _ ls (by rw [hi1, onP_le (by omega)]; first | exact (bI_pos (by omega)).symm | exact (bI_neg (by omega)).symm) rfl hS dX8_isOnPath_27
      · skip
        refine lv_aload_n hx hb dX8_isOnPath_7 rfl (lv_at hl 0 rfl) ?_
        refine lv_iload_n hx hb dX8_isOnPath_8 rfl (lv_at hl 3 rfl) ?_
        refine lv_iconst (v := (nI 0)) hx hb dX8_isOnPath_9 (by decide) ?_
        refine call_x (va_runV (As := [.int (nI at_), .int (nI 0)]) (rest := []) ⟨hx, hb, hml, hown, hts⟩ (kX8_en ln dg tq (m0 := m0) (ms := ms) (mw := mw) (mt := mt) (su := su) (pt := pt) (td := td) (wy := wy) (xs := xs) (xt := xt) (xa := xa) (s := s) (e := at_) (f := 0) (he := (by omega)) (hf := (by omega)) H.size) (cwV 2 hts gX8_isOnPath_X8_en rfl rfl rfl hdX8_en ⟨Nat.le_of_ble_eq_true rfl, Nat.le_of_ble_eq_true rfl⟩) (preVR hK hN hP [0, 1] rfl 0 rfl rfl [.int (nI at_), .int (nI 0)]) rfl rfl hl.1 rfl (lv_room (Nat.le_of_ble_eq_true rfl)) dX8_isOnPath_10 ⟨Nat.le_refl _, Nat.le_refl _⟩) hP hS hA (fun H locs hP hS => ?_)
        refine r_top (show (s (5 + 7 * at_ + 0)) = (nI (pa s at_)) from hW.p (by omega) (by omega)) ?_
        refine lv_istore_n (lv' := [(3, .int (nI (pa s at_))), (0, .ref m0), (1, .int (nI x)), (2, .int (nI y))]) hx hb dX8_isOnPath_13 rfl hl (by decide) rfl (fun ls hl => ?_)
        refine lv_goto (tgt := 2) hx hb dX8_isOnPath_14 (by decide) ?_
        exact ih2 (pa s at_) H locs ls (⟨by rw [hi1, onP_s hW (by omega) (by omega)], by have hpl := hW.pl (e := at_) (by omega) (by omega); omega⟩) (by have hpl := hW.pl (e := at_) (by omega) (by omega); omega) (hP.sub [0, 1] rfl) hS (lv_sub hl [1, 2, 3, 0] rfl)
  exact loop2 _ y H locs ls (⟨rfl, by omega⟩) (Nat.lt_succ_self _) (hP.sub [0, 1] rfl) hS (lv_sub hl [1, 2, 3, 0] rfl)
theorem hdX8_counts : yX8_counts.cls = RX8 ∧ yX8_counts.cls ≠ "java/lang/invoke/MethodHandle" ∧ yX8_counts.cls ≠ "java/lang/invoke/VarHandle" ∧ (parseMethodDescriptor yX8_counts.desc).map (fun d => d.parameters.length) = some 2 := by decide +kernel
set_option maxHeartbeats 4000000 in
set_option maxRecDepth 100000 in
theorem kX8_counts__p (ln : Launch) (dg : va_G) (tq : ClassId × ClassId) (m0 ms mw mt su pt td wy : Nat) (xs xt xa : Int32) (s f : Row) (hW : WF s) (v : Nat → Int) (hV : SV f v) (e : Nat) (he : e < nE s) : MV ln yX8_counts wsX8_counts (rmm 1 22) dg tq [.ref m0, .int (nI e), .int (nI 1)] [(m0, .inr (8, [.ref ms, .ref mw, .int xs, .ref mt, .int xt, .int xa, .ref su, .ref pt, .ref td, .ref wy])), (ms, .inl (tq.1, 1445, .inl s)), (su, .inl (tq.1, 6, .inl f))] (fun (u : Row) => SV u (addV s v e)) (fun u => [(m0, .inr (8, [.ref ms, .ref mw, .int xs, .ref mt, .int xt, .int xa, .ref su, .ref pt, .ref td, .ref wy])), (ms, .inl (tq.1, 1445, .inl s)), (su, .inl (tq.1, 6, .inl u))]) := by
  refine MV.enter cX8_counts 4 (by decide) rfl rfl (Nat.le_of_ble_eq_true rfl) ?_
  intro pP eE sS mM aA bB mT cC QQ AA hA hAT hret H locs hP hD hS ls hl
  obtain ⟨hx, hb, hml, hown, hts, hK, hN⟩ := hAT
  have hown : sS.vm.findClass RX8 = some mM.cls := hown
  have hl : lv_has ls 4 [(0, .ref m0), (1, .int (nI e)), (2, .int (nI 1))] := hl
  have in8 : ∀ w ∈ u_ws RX8 TX8 10, w ∈ wsX8_counts := (fun _ h9 => List.mem_cons_of_mem _ (List.mem_append_right _ h9))
  have f20 := hts (.fieldLink RX8 20 "OrphanChainModel" "sums" "[I") (List.mem_of_getElem? (i := 1) rfl)
  have hn60 := hW.n60
  have hb10 := hW.b10
  have hs8 := hW.s8
  have hhn := hW.hn
  have h1l := hW.a1l he
  have h2l := hW.a2l he
  have h12 := fun h => hW.a12 he h
  refine lv_aload_n hx hb dX8_counts_0 rfl (lv_at hl 0 rfl) ?_
  refine lv_iload_n hx hb dX8_counts_1 rfl (lv_at hl 1 rfl) ?_
  refine lv_iconst (v := (nI 1)) hx hb dX8_counts_2 (by decide) ?_
  refine call_x (va_runV (As := [.int (nI e), .int (nI 1)]) (rest := []) ⟨hx, hb, hml, hown, hts⟩ (kX8_en ln dg tq (m0 := m0) (ms := ms) (mw := mw) (mt := mt) (su := su) (pt := pt) (td := td) (wy := wy) (xs := xs) (xt := xt) (xa := xa) (s := s) (e := e) (f := 1) (he := (by omega)) (hf := (by omega)) H.size) (cwV 2 hts gX8_counts_X8_en rfl rfl rfl hdX8_en ⟨Nat.le_of_ble_eq_true rfl, Nat.le_of_ble_eq_true rfl⟩) (preVR hK hN hP [0, 1] rfl 0 rfl rfl [.int (nI e), .int (nI 1)]) rfl rfl hl.1 rfl (lv_room (Nat.le_of_ble_eq_true rfl)) dX8_counts_3 ⟨Nat.le_refl _, Nat.le_refl _⟩) hP hS hA (fun H locs hP hS => ?_)
  refine r_top (show (s (5 + 7 * e + 1)) = (me s e 1) from rfl) ?_
  refine lv_istore_n (lv' := [(3, .int (me s e 1)), (0, .ref m0), (1, .int (nI e)), (2, .int (nI 1))]) hx hb dX8_counts_6 rfl hl (by decide) rfl (fun ls hl => ?_)
  refine lv_iload_n hx hb dX8_counts_7 rfl (lv_at hl 0 rfl) ?_
  refine lv_iconst (v := (nI 2)) hx hb dX8_counts_8 (by decide) ?_
  refine r_icmp_eq (tgt := 17) hx hb rfl (nI_tI (by omega)) dX8_counts_9 (by decide) (fun c9 => ?_) (fun c9 => ?_)
  · skip
    refine lv_aload_n hx hb dX8_counts_17 rfl (lv_at hl 1 rfl) ?_
    refine va_get (D := dg) (ci := 8) (v := .ref su) (C := RX8) (T := TX8) (N := 10) hx hb hts in8 hown hK hP 0 rfl rfl 6 (by decide) f20 (fun _ h9 => h9) rfl dX8_counts_18 ?_
    refine lv_aload_n hx hb dX8_counts_21 rfl (lv_at hl 1 rfl) ?_
    refine lv_iload_n hx hb dX8_counts_22 rfl (lv_at hl 2 rfl) ?_
    refine lv_iconst (v := (nI 2)) hx hb dX8_counts_23 (by decide) ?_
    refine call_x (va_runV (As := [.int (nI e), .int (nI 2)]) (rest := [.ref su]) ⟨hx, hb, hml, hown, hts⟩ (kX8_en ln dg tq (m0 := m0) (ms := ms) (mw := mw) (mt := mt) (su := su) (pt := pt) (td := td) (wy := wy) (xs := xs) (xt := xt) (xa := xa) (s := s) (e := e) (f := 2) (he := (by omega)) (hf := (by omega)) H.size) (cwV 2 hts gX8_counts_X8_en rfl rfl rfl hdX8_en ⟨Nat.le_of_ble_eq_true rfl, Nat.le_of_ble_eq_true rfl⟩) (preVR hK hN hP [0, 1] rfl 0 rfl rfl [.int (nI e), .int (nI 2)]) rfl rfl hl.1 rfl (lv_room (Nat.le_of_ble_eq_true rfl)) dX8_counts_24 ⟨Nat.le_refl _, Nat.le_refl _⟩) hP hS hA (fun H locs hP hS => ?_)
    refine r_top (show (s (5 + 7 * e + 2)) = (nI (a1 s e)) from (hW.e (e := e) (by omega)).2.1) ?_
    refine lv_dup2_11 hx hb dX8_counts_27 rfl rfl ?_
    refine r_iald_n hx hb hK hP 2 rfl (k := (a1 s e)) (by omega) (by omega) dX8_counts_28 ?_
    refine r_top (show (f (a1 s e)) = (iI (v (a1 s e))) from hV _ h1l) ?_
    refine lv_iload_n hx hb dX8_counts_29 rfl (lv_at hl 3 rfl) ?_
    refine lv_aload_n hx hb dX8_counts_30 rfl (lv_at hl 1 rfl) ?_
    refine lv_iload_n hx hb dX8_counts_31 rfl (lv_at hl 2 rfl) ?_
    refine lv_iconst (v := (nI 4)) hx hb dX8_counts_32 (by decide) ?_
    refine call_x (va_runV (As := [.int (nI e), .int (nI 4)]) (rest := [.int (nI 1), .int (iI (v (a1 s e))), .int (nI (a1 s e)), .ref su]) ⟨hx, hb, hml, hown, hts⟩ (kX8_en ln dg tq (m0 := m0) (ms := ms) (mw := mw) (mt := mt) (su := su) (pt := pt) (td := td) (wy := wy) (xs := xs) (xt := xt) (xa := xa) (s := s) (e := e) (f := 4) (he := (by omega)) (hf := (by omega)) H.size) (cwV 2 hts gX8_counts_X8_en rfl rfl rfl hdX8_en ⟨Nat.le_of_ble_eq_true rfl, Nat.le_of_ble_eq_true rfl⟩) (preVR hK hN hP [0, 1] rfl 0 rfl rfl [.int (nI e), .int (nI 4)]) rfl rfl hl.1 rfl (lv_room (Nat.le_of_ble_eq_true rfl)) dX8_counts_33 ⟨Nat.le_refl _, Nat.le_refl _⟩) hP hS hA (fun H locs hP hS => ?_)
    refine r_top (show (s (5 + 7 * e + 4)) = (iI (am s e)) from am_iI s e) ?_
    refine r_imul_z hx hb (nI_iI _) rfl dX8_counts_36 ?_
    refine r_isub_z hx hb rfl rfl dX8_counts_37 ?_
    refine r_iast_n hx hb hK hP hD hS 2 rfl (k := (a1 s e)) (by omega) (by omega) dX8_counts_38 (fun H locs hP hD hS => ?_)
    have hP : va_P dg vwCl [(m0, .inr (8, [.ref ms, .ref mw, .int xs, .ref mt, .int xt, .int xa, .ref su, .ref pt, .ref td, .ref wy])), (ms, .inl (tq.1, 1445, .inl s)), (su, .inl (tq.1, 6, .inl (upd f (a1 s e) (iI ((v (a1 s e)) - (((1 : Nat) : Int) * (am s e)))))))] H := hP
    have hD : va_D AA [(m0, .inr (8, [.ref ms, .ref mw, .int xs, .ref mt, .int xt, .int xa, .ref su, .ref pt, .ref td, .ref wy])), (ms, .inl (tq.1, 1445, .inl s)), (su, .inl (tq.1, 6, .inl (upd f (a1 s e) (iI ((v (a1 s e)) - (((1 : Nat) : Int) * (am s e)))))))] := hD
    refine lv_iload_n hx hb dX8_counts_39 rfl (lv_at hl 0 rfl) ?_
    refine lv_iconst (v := (nI 1)) hx hb dX8_counts_40 (by decide) ?_
    refine lv_iconst (v := (nI 3)) hx hb dX8_counts_41 (by decide) ?_
    refine call_x (va_runS (As := [.int (me s e 1), .int (nI 1), .int (nI 3)]) (rest := []) ⟨hx, hb, hml, hown, hts⟩ (kX8_in ln dg tq (v := (me s e 1)) (lo := (nI 1)) (hi := (nI 3)) H.size) (va_cwS 3 hts gX8_counts_X8_in rfl rfl rfl hdX8_in.2 ⟨Nat.le_of_ble_eq_true rfl, Nat.le_of_ble_eq_true rfl⟩) (preS0 hK hN [.int (me s e 1), .int (nI 1), .int (nI 3)]) rfl rfl hl.1 rfl (lv_room (Nat.le_of_ble_eq_true rfl)) dX8_counts_42 ⟨Nat.le_refl _, Nat.le_refl _⟩) hP hS hA (fun H locs hP hS => ?_)
    refine r_top (show (bI (inR (me s e 1) (nI 1) (nI 3))) = (bI (bg s e)) from congrArg bI (bg_in s e)) ?_
    refine r_if_eq_b (tgt := 70) hx hb dX8_counts_45 (by decide) (fun c45 => ?_) (fun c45 => ?_)
    · skip
      exact hret ((upd f (a1 s e) (iI ((v (a1 s e)) - (((1 : Nat) : Int) * (am s e)))))) H locs _ ls (cnt_tf hV (tk_t (by omega)) c45 (addV_hw1 s v e)) (hP.sub [0, 1, 2] rfl) (hD.sub [0, 1, 2] (by decide) rfl) hS dX8_counts_70
    · skip
      refine lv_aload_n hx hb dX8_counts_48 rfl (lv_at hl 1 rfl) ?_
      refine va_get (D := dg) (ci := 8) (v := .ref su) (C := RX8) (T := TX8) (N := 10) hx hb hts in8 hown hK hP 0 rfl rfl 6 (by decide) f20 (fun _ h9 => h9) rfl dX8_counts_49 ?_
      refine lv_aload_n hx hb dX8_counts_52 rfl (lv_at hl 1 rfl) ?_
      refine lv_iload_n hx hb dX8_counts_53 rfl (lv_at hl 2 rfl) ?_
      refine lv_iconst (v := (nI 3)) hx hb dX8_counts_54 (by decide) ?_
      refine call_x (va_runV (As := [.int (nI e), .int (nI 3)]) (rest := [.ref su]) ⟨hx, hb, hml, hown, hts⟩ (kX8_en ln dg tq (m0 := m0) (ms := ms) (mw := mw) (mt := mt) (su := su) (pt := pt) (td := td) (wy := wy) (xs := xs) (xt := xt) (xa := xa) (s := s) (e := e) (f := 3) (he := (by omega)) (hf := (by omega)) H.size) (cwV 2 hts gX8_counts_X8_en rfl rfl rfl hdX8_en ⟨Nat.le_of_ble_eq_true rfl, Nat.le_of_ble_eq_true rfl⟩) (preVR hK hN hP [0, 1] rfl 0 rfl rfl [.int (nI e), .int (nI 3)]) rfl rfl hl.1 rfl (lv_room (Nat.le_of_ble_eq_true rfl)) dX8_counts_55 ⟨Nat.le_refl _, Nat.le_refl _⟩) hP hS hA (fun H locs hP hS => ?_)
      refine r_top (show (s (5 + 7 * e + 3)) = (nI (a2 s e)) from (hW.e (e := e) (by omega)).2.2.2.1) ?_
      refine lv_dup2_11 hx hb dX8_counts_58 rfl rfl ?_
      refine r_iald_n hx hb hK hP 2 rfl (k := (a2 s e)) (by omega) (by omega) dX8_counts_59 ?_
      refine r_top (show ((upd f (a1 s e) (iI ((v (a1 s e)) - (((1 : Nat) : Int) * (am s e))))) (a2 s e)) = (iI (v (a2 s e))) from by rw [pk_un (Ne.symm (h12 (tk_t (by omega))))]; exact hV _ h2l) ?_
      refine lv_iload_n hx hb dX8_counts_60 rfl (lv_at hl 3 rfl) ?_
      refine lv_aload_n hx hb dX8_counts_61 rfl (lv_at hl 1 rfl) ?_
      refine lv_iload_n hx hb dX8_counts_62 rfl (lv_at hl 2 rfl) ?_
      refine lv_iconst (v := (nI 4)) hx hb dX8_counts_63 (by decide) ?_
      refine call_x (va_runV (As := [.int (nI e), .int (nI 4)]) (rest := [.int (nI 1), .int (iI (v (a2 s e))), .int (nI (a2 s e)), .ref su]) ⟨hx, hb, hml, hown, hts⟩ (kX8_en ln dg tq (m0 := m0) (ms := ms) (mw := mw) (mt := mt) (su := su) (pt := pt) (td := td) (wy := wy) (xs := xs) (xt := xt) (xa := xa) (s := s) (e := e) (f := 4) (he := (by omega)) (hf := (by omega)) H.size) (cwV 2 hts gX8_counts_X8_en rfl rfl rfl hdX8_en ⟨Nat.le_of_ble_eq_true rfl, Nat.le_of_ble_eq_true rfl⟩) (preVR hK hN hP [0, 1] rfl 0 rfl rfl [.int (nI e), .int (nI 4)]) rfl rfl hl.1 rfl (lv_room (Nat.le_of_ble_eq_true rfl)) dX8_counts_64 ⟨Nat.le_refl _, Nat.le_refl _⟩) hP hS hA (fun H locs hP hS => ?_)
      refine r_top (show (s (5 + 7 * e + 4)) = (iI (am s e)) from am_iI s e) ?_
      refine r_imul_z hx hb (nI_iI _) rfl dX8_counts_67 ?_
      refine r_iadd_z hx hb rfl rfl dX8_counts_68 ?_
      refine r_iast_n hx hb hK hP hD hS 2 rfl (k := (a2 s e)) (by omega) (by omega) dX8_counts_69 (fun H locs hP hD hS => ?_)
      have hP : va_P dg vwCl [(m0, .inr (8, [.ref ms, .ref mw, .int xs, .ref mt, .int xt, .int xa, .ref su, .ref pt, .ref td, .ref wy])), (ms, .inl (tq.1, 1445, .inl s)), (su, .inl (tq.1, 6, .inl (upd (upd f (a1 s e) (iI ((v (a1 s e)) - (((1 : Nat) : Int) * (am s e))))) (a2 s e) (iI ((v (a2 s e)) + (((1 : Nat) : Int) * (am s e)))))))] H := hP
      have hD : va_D AA [(m0, .inr (8, [.ref ms, .ref mw, .int xs, .ref mt, .int xt, .int xa, .ref su, .ref pt, .ref td, .ref wy])), (ms, .inl (tq.1, 1445, .inl s)), (su, .inl (tq.1, 6, .inl (upd (upd f (a1 s e) (iI ((v (a1 s e)) - (((1 : Nat) : Int) * (am s e))))) (a2 s e) (iI ((v (a2 s e)) + (((1 : Nat) : Int) * (am s e)))))))] := hD
      exact hret ((upd (upd f (a1 s e) (iI ((v (a1 s e)) - (((1 : Nat) : Int) * (am s e))))) (a2 s e) (iI ((v (a2 s e)) + (((1 : Nat) : Int) * (am s e)))))) H locs _ ls (cnt_tt hV (tk_t (by omega)) c45 (h12 (tk_t (by omega))) (addV_hw1 s v e)) (hP.sub [0, 1, 2] rfl) (hD.sub [0, 1, 2] (by decide) rfl) hS dX8_counts_70
  · skip
    refine lv_iload_n hx hb dX8_counts_12 rfl (lv_at hl 0 rfl) ?_
    refine lv_iconst (v := (nI 3)) hx hb dX8_counts_13 (by decide) ?_
    refine r_icmp_ne (tgt := 39) hx hb rfl (nI_tI (by omega)) dX8_counts_14 (by decide) (fun c14 => ?_) (fun c14 => ?_)
    · skip
      refine lv_iload_n hx hb dX8_counts_39 rfl (lv_at hl 0 rfl) ?_
      refine lv_iconst (v := (nI 1)) hx hb dX8_counts_40 (by decide) ?_
      refine lv_iconst (v := (nI 3)) hx hb dX8_counts_41 (by decide) ?_
      refine call_x (va_runS (As := [.int (me s e 1), .int (nI 1), .int (nI 3)]) (rest := []) ⟨hx, hb, hml, hown, hts⟩ (kX8_in ln dg tq (v := (me s e 1)) (lo := (nI 1)) (hi := (nI 3)) H.size) (va_cwS 3 hts gX8_counts_X8_in rfl rfl rfl hdX8_in.2 ⟨Nat.le_of_ble_eq_true rfl, Nat.le_of_ble_eq_true rfl⟩) (preS0 hK hN [.int (me s e 1), .int (nI 1), .int (nI 3)]) rfl rfl hl.1 rfl (lv_room (Nat.le_of_ble_eq_true rfl)) dX8_counts_42 ⟨Nat.le_refl _, Nat.le_refl _⟩) hP hS hA (fun H locs hP hS => ?_)
      refine r_top (show (bI (inR (me s e 1) (nI 1) (nI 3))) = (bI (bg s e)) from congrArg bI (bg_in s e)) ?_
      refine r_if_eq_b (tgt := 70) hx hb dX8_counts_45 (by decide) (fun c45 => ?_) (fun c45 => ?_)
      · skip
        exact hret (f) H locs _ ls (cnt_ff hV (tk_f (by omega)) c45 (addV_hw1 s v e)) (hP.sub [0, 1, 2] rfl) (hD.sub [0, 1, 2] (by decide) rfl) hS dX8_counts_70
      · skip
        refine lv_aload_n hx hb dX8_counts_48 rfl (lv_at hl 1 rfl) ?_
        refine va_get (D := dg) (ci := 8) (v := .ref su) (C := RX8) (T := TX8) (N := 10) hx hb hts in8 hown hK hP 0 rfl rfl 6 (by decide) f20 (fun _ h9 => h9) rfl dX8_counts_49 ?_
        refine lv_aload_n hx hb dX8_counts_52 rfl (lv_at hl 1 rfl) ?_
        refine lv_iload_n hx hb dX8_counts_53 rfl (lv_at hl 2 rfl) ?_
        refine lv_iconst (v := (nI 3)) hx hb dX8_counts_54 (by decide) ?_
        refine call_x (va_runV (As := [.int (nI e), .int (nI 3)]) (rest := [.ref su]) ⟨hx, hb, hml, hown, hts⟩ (kX8_en ln dg tq (m0 := m0) (ms := ms) (mw := mw) (mt := mt) (su := su) (pt := pt) (td := td) (wy := wy) (xs := xs) (xt := xt) (xa := xa) (s := s) (e := e) (f := 3) (he := (by omega)) (hf := (by omega)) H.size) (cwV 2 hts gX8_counts_X8_en rfl rfl rfl hdX8_en ⟨Nat.le_of_ble_eq_true rfl, Nat.le_of_ble_eq_true rfl⟩) (preVR hK hN hP [0, 1] rfl 0 rfl rfl [.int (nI e), .int (nI 3)]) rfl rfl hl.1 rfl (lv_room (Nat.le_of_ble_eq_true rfl)) dX8_counts_55 ⟨Nat.le_refl _, Nat.le_refl _⟩) hP hS hA (fun H locs hP hS => ?_)
        refine r_top (show (s (5 + 7 * e + 3)) = (nI (a2 s e)) from (hW.e (e := e) (by omega)).2.2.2.1) ?_
        refine lv_dup2_11 hx hb dX8_counts_58 rfl rfl ?_
        refine r_iald_n hx hb hK hP 2 rfl (k := (a2 s e)) (by omega) (by omega) dX8_counts_59 ?_
        refine r_top (show (f (a2 s e)) = (iI (v (a2 s e))) from hV _ h2l) ?_
        refine lv_iload_n hx hb dX8_counts_60 rfl (lv_at hl 3 rfl) ?_
        refine lv_aload_n hx hb dX8_counts_61 rfl (lv_at hl 1 rfl) ?_
        refine lv_iload_n hx hb dX8_counts_62 rfl (lv_at hl 2 rfl) ?_
        refine lv_iconst (v := (nI 4)) hx hb dX8_counts_63 (by decide) ?_
        refine call_x (va_runV (As := [.int (nI e), .int (nI 4)]) (rest := [.int (nI 1), .int (iI (v (a2 s e))), .int (nI (a2 s e)), .ref su]) ⟨hx, hb, hml, hown, hts⟩ (kX8_en ln dg tq (m0 := m0) (ms := ms) (mw := mw) (mt := mt) (su := su) (pt := pt) (td := td) (wy := wy) (xs := xs) (xt := xt) (xa := xa) (s := s) (e := e) (f := 4) (he := (by omega)) (hf := (by omega)) H.size) (cwV 2 hts gX8_counts_X8_en rfl rfl rfl hdX8_en ⟨Nat.le_of_ble_eq_true rfl, Nat.le_of_ble_eq_true rfl⟩) (preVR hK hN hP [0, 1] rfl 0 rfl rfl [.int (nI e), .int (nI 4)]) rfl rfl hl.1 rfl (lv_room (Nat.le_of_ble_eq_true rfl)) dX8_counts_64 ⟨Nat.le_refl _, Nat.le_refl _⟩) hP hS hA (fun H locs hP hS => ?_)
        refine r_top (show (s (5 + 7 * e + 4)) = (iI (am s e)) from am_iI s e) ?_
        refine r_imul_z hx hb (nI_iI _) rfl dX8_counts_67 ?_
        refine r_iadd_z hx hb rfl rfl dX8_counts_68 ?_
        refine r_iast_n hx hb hK hP hD hS 2 rfl (k := (a2 s e)) (by omega) (by omega) dX8_counts_69 (fun H locs hP hD hS => ?_)
        have hP : va_P dg vwCl [(m0, .inr (8, [.ref ms, .ref mw, .int xs, .ref mt, .int xt, .int xa, .ref su, .ref pt, .ref td, .ref wy])), (ms, .inl (tq.1, 1445, .inl s)), (su, .inl (tq.1, 6, .inl (upd f (a2 s e) (iI ((v (a2 s e)) + (((1 : Nat) : Int) * (am s e)))))))] H := hP
        have hD : va_D AA [(m0, .inr (8, [.ref ms, .ref mw, .int xs, .ref mt, .int xt, .int xa, .ref su, .ref pt, .ref td, .ref wy])), (ms, .inl (tq.1, 1445, .inl s)), (su, .inl (tq.1, 6, .inl (upd f (a2 s e) (iI ((v (a2 s e)) + (((1 : Nat) : Int) * (am s e)))))))] := hD
        exact hret ((upd f (a2 s e) (iI ((v (a2 s e)) + (((1 : Nat) : Int) * (am s e)))))) H locs _ ls (cnt_ft hV (tk_f (by omega)) c45 (addV_hw1 s v e)) (hP.sub [0, 1, 2] rfl) (hD.sub [0, 1, 2] (by decide) rfl) hS dX8_counts_70
    · skip
      refine lv_aload_n hx hb dX8_counts_17 rfl (lv_at hl 1 rfl) ?_
      refine va_get (D := dg) (ci := 8) (v := .ref su) (C := RX8) (T := TX8) (N := 10) hx hb hts in8 hown hK hP 0 rfl rfl 6 (by decide) f20 (fun _ h9 => h9) rfl dX8_counts_18 ?_
      refine lv_aload_n hx hb dX8_counts_21 rfl (lv_at hl 1 rfl) ?_
      refine lv_iload_n hx hb dX8_counts_22 rfl (lv_at hl 2 rfl) ?_
      refine lv_iconst (v := (nI 2)) hx hb dX8_counts_23 (by decide) ?_
      refine call_x (va_runV (As := [.int (nI e), .int (nI 2)]) (rest := [.ref su]) ⟨hx, hb, hml, hown, hts⟩ (kX8_en ln dg tq (m0 := m0) (ms := ms) (mw := mw) (mt := mt) (su := su) (pt := pt) (td := td) (wy := wy) (xs := xs) (xt := xt) (xa := xa) (s := s) (e := e) (f := 2) (he := (by omega)) (hf := (by omega)) H.size) (cwV 2 hts gX8_counts_X8_en rfl rfl rfl hdX8_en ⟨Nat.le_of_ble_eq_true rfl, Nat.le_of_ble_eq_true rfl⟩) (preVR hK hN hP [0, 1] rfl 0 rfl rfl [.int (nI e), .int (nI 2)]) rfl rfl hl.1 rfl (lv_room (Nat.le_of_ble_eq_true rfl)) dX8_counts_24 ⟨Nat.le_refl _, Nat.le_refl _⟩) hP hS hA (fun H locs hP hS => ?_)
      refine r_top (show (s (5 + 7 * e + 2)) = (nI (a1 s e)) from (hW.e (e := e) (by omega)).2.1) ?_
      refine lv_dup2_11 hx hb dX8_counts_27 rfl rfl ?_
      refine r_iald_n hx hb hK hP 2 rfl (k := (a1 s e)) (by omega) (by omega) dX8_counts_28 ?_
      refine r_top (show (f (a1 s e)) = (iI (v (a1 s e))) from hV _ h1l) ?_
      refine lv_iload_n hx hb dX8_counts_29 rfl (lv_at hl 3 rfl) ?_
      refine lv_aload_n hx hb dX8_counts_30 rfl (lv_at hl 1 rfl) ?_
      refine lv_iload_n hx hb dX8_counts_31 rfl (lv_at hl 2 rfl) ?_
      refine lv_iconst (v := (nI 4)) hx hb dX8_counts_32 (by decide) ?_
      refine call_x (va_runV (As := [.int (nI e), .int (nI 4)]) (rest := [.int (nI 1), .int (iI (v (a1 s e))), .int (nI (a1 s e)), .ref su]) ⟨hx, hb, hml, hown, hts⟩ (kX8_en ln dg tq (m0 := m0) (ms := ms) (mw := mw) (mt := mt) (su := su) (pt := pt) (td := td) (wy := wy) (xs := xs) (xt := xt) (xa := xa) (s := s) (e := e) (f := 4) (he := (by omega)) (hf := (by omega)) H.size) (cwV 2 hts gX8_counts_X8_en rfl rfl rfl hdX8_en ⟨Nat.le_of_ble_eq_true rfl, Nat.le_of_ble_eq_true rfl⟩) (preVR hK hN hP [0, 1] rfl 0 rfl rfl [.int (nI e), .int (nI 4)]) rfl rfl hl.1 rfl (lv_room (Nat.le_of_ble_eq_true rfl)) dX8_counts_33 ⟨Nat.le_refl _, Nat.le_refl _⟩) hP hS hA (fun H locs hP hS => ?_)
      refine r_top (show (s (5 + 7 * e + 4)) = (iI (am s e)) from am_iI s e) ?_
      refine r_imul_z hx hb (nI_iI _) rfl dX8_counts_36 ?_
      refine r_isub_z hx hb rfl rfl dX8_counts_37 ?_
      refine r_iast_n hx hb hK hP hD hS 2 rfl (k := (a1 s e)) (by omega) (by omega) dX8_counts_38 (fun H locs hP hD hS => ?_)
      have hP : va_P dg vwCl [(m0, .inr (8, [.ref ms, .ref mw, .int xs, .ref mt, .int xt, .int xa, .ref su, .ref pt, .ref td, .ref wy])), (ms, .inl (tq.1, 1445, .inl s)), (su, .inl (tq.1, 6, .inl (upd f (a1 s e) (iI ((v (a1 s e)) - (((1 : Nat) : Int) * (am s e)))))))] H := hP
      have hD : va_D AA [(m0, .inr (8, [.ref ms, .ref mw, .int xs, .ref mt, .int xt, .int xa, .ref su, .ref pt, .ref td, .ref wy])), (ms, .inl (tq.1, 1445, .inl s)), (su, .inl (tq.1, 6, .inl (upd f (a1 s e) (iI ((v (a1 s e)) - (((1 : Nat) : Int) * (am s e)))))))] := hD
      refine lv_iload_n hx hb dX8_counts_39 rfl (lv_at hl 0 rfl) ?_
      refine lv_iconst (v := (nI 1)) hx hb dX8_counts_40 (by decide) ?_
      refine lv_iconst (v := (nI 3)) hx hb dX8_counts_41 (by decide) ?_
      refine call_x (va_runS (As := [.int (me s e 1), .int (nI 1), .int (nI 3)]) (rest := []) ⟨hx, hb, hml, hown, hts⟩ (kX8_in ln dg tq (v := (me s e 1)) (lo := (nI 1)) (hi := (nI 3)) H.size) (va_cwS 3 hts gX8_counts_X8_in rfl rfl rfl hdX8_in.2 ⟨Nat.le_of_ble_eq_true rfl, Nat.le_of_ble_eq_true rfl⟩) (preS0 hK hN [.int (me s e 1), .int (nI 1), .int (nI 3)]) rfl rfl hl.1 rfl (lv_room (Nat.le_of_ble_eq_true rfl)) dX8_counts_42 ⟨Nat.le_refl _, Nat.le_refl _⟩) hP hS hA (fun H locs hP hS => ?_)
      refine r_top (show (bI (inR (me s e 1) (nI 1) (nI 3))) = (bI (bg s e)) from congrArg bI (bg_in s e)) ?_
      refine r_if_eq_b (tgt := 70) hx hb dX8_counts_45 (by decide) (fun c45 => ?_) (fun c45 => ?_)
      · skip
        exact hret ((upd f (a1 s e) (iI ((v (a1 s e)) - (((1 : Nat) : Int) * (am s e)))))) H locs _ ls (cnt_tf hV (tk_t (by omega)) c45 (addV_hw1 s v e)) (hP.sub [0, 1, 2] rfl) (hD.sub [0, 1, 2] (by decide) rfl) hS dX8_counts_70
      · skip
        refine lv_aload_n hx hb dX8_counts_48 rfl (lv_at hl 1 rfl) ?_
        refine va_get (D := dg) (ci := 8) (v := .ref su) (C := RX8) (T := TX8) (N := 10) hx hb hts in8 hown hK hP 0 rfl rfl 6 (by decide) f20 (fun _ h9 => h9) rfl dX8_counts_49 ?_
        refine lv_aload_n hx hb dX8_counts_52 rfl (lv_at hl 1 rfl) ?_
        refine lv_iload_n hx hb dX8_counts_53 rfl (lv_at hl 2 rfl) ?_
        refine lv_iconst (v := (nI 3)) hx hb dX8_counts_54 (by decide) ?_
        refine call_x (va_runV (As := [.int (nI e), .int (nI 3)]) (rest := [.ref su]) ⟨hx, hb, hml, hown, hts⟩ (kX8_en ln dg tq (m0 := m0) (ms := ms) (mw := mw) (mt := mt) (su := su) (pt := pt) (td := td) (wy := wy) (xs := xs) (xt := xt) (xa := xa) (s := s) (e := e) (f := 3) (he := (by omega)) (hf := (by omega)) H.size) (cwV 2 hts gX8_counts_X8_en rfl rfl rfl hdX8_en ⟨Nat.le_of_ble_eq_true rfl, Nat.le_of_ble_eq_true rfl⟩) (preVR hK hN hP [0, 1] rfl 0 rfl rfl [.int (nI e), .int (nI 3)]) rfl rfl hl.1 rfl (lv_room (Nat.le_of_ble_eq_true rfl)) dX8_counts_55 ⟨Nat.le_refl _, Nat.le_refl _⟩) hP hS hA (fun H locs hP hS => ?_)
        refine r_top (show (s (5 + 7 * e + 3)) = (nI (a2 s e)) from (hW.e (e := e) (by omega)).2.2.2.1) ?_
        refine lv_dup2_11 hx hb dX8_counts_58 rfl rfl ?_
        refine r_iald_n hx hb hK hP 2 rfl (k := (a2 s e)) (by omega) (by omega) dX8_counts_59 ?_
        refine r_top (show ((upd f (a1 s e) (iI ((v (a1 s e)) - (((1 : Nat) : Int) * (am s e))))) (a2 s e)) = (iI (v (a2 s e))) from by rw [pk_un (Ne.symm (h12 (tk_t (by omega))))]; exact hV _ h2l) ?_
        refine lv_iload_n hx hb dX8_counts_60 rfl (lv_at hl 3 rfl) ?_
        refine lv_aload_n hx hb dX8_counts_61 rfl (lv_at hl 1 rfl) ?_
        refine lv_iload_n hx hb dX8_counts_62 rfl (lv_at hl 2 rfl) ?_
        refine lv_iconst (v := (nI 4)) hx hb dX8_counts_63 (by decide) ?_
        refine call_x (va_runV (As := [.int (nI e), .int (nI 4)]) (rest := [.int (nI 1), .int (iI (v (a2 s e))), .int (nI (a2 s e)), .ref su]) ⟨hx, hb, hml, hown, hts⟩ (kX8_en ln dg tq (m0 := m0) (ms := ms) (mw := mw) (mt := mt) (su := su) (pt := pt) (td := td) (wy := wy) (xs := xs) (xt := xt) (xa := xa) (s := s) (e := e) (f := 4) (he := (by omega)) (hf := (by omega)) H.size) (cwV 2 hts gX8_counts_X8_en rfl rfl rfl hdX8_en ⟨Nat.le_of_ble_eq_true rfl, Nat.le_of_ble_eq_true rfl⟩) (preVR hK hN hP [0, 1] rfl 0 rfl rfl [.int (nI e), .int (nI 4)]) rfl rfl hl.1 rfl (lv_room (Nat.le_of_ble_eq_true rfl)) dX8_counts_64 ⟨Nat.le_refl _, Nat.le_refl _⟩) hP hS hA (fun H locs hP hS => ?_)
        refine r_top (show (s (5 + 7 * e + 4)) = (iI (am s e)) from am_iI s e) ?_
        refine r_imul_z hx hb (nI_iI _) rfl dX8_counts_67 ?_
        refine r_iadd_z hx hb rfl rfl dX8_counts_68 ?_
        refine r_iast_n hx hb hK hP hD hS 2 rfl (k := (a2 s e)) (by omega) (by omega) dX8_counts_69 (fun H locs hP hD hS => ?_)
        have hP : va_P dg vwCl [(m0, .inr (8, [.ref ms, .ref mw, .int xs, .ref mt, .int xt, .int xa, .ref su, .ref pt, .ref td, .ref wy])), (ms, .inl (tq.1, 1445, .inl s)), (su, .inl (tq.1, 6, .inl (upd (upd f (a1 s e) (iI ((v (a1 s e)) - (((1 : Nat) : Int) * (am s e))))) (a2 s e) (iI ((v (a2 s e)) + (((1 : Nat) : Int) * (am s e)))))))] H := hP
        have hD : va_D AA [(m0, .inr (8, [.ref ms, .ref mw, .int xs, .ref mt, .int xt, .int xa, .ref su, .ref pt, .ref td, .ref wy])), (ms, .inl (tq.1, 1445, .inl s)), (su, .inl (tq.1, 6, .inl (upd (upd f (a1 s e) (iI ((v (a1 s e)) - (((1 : Nat) : Int) * (am s e))))) (a2 s e) (iI ((v (a2 s e)) + (((1 : Nat) : Int) * (am s e)))))))] := hD
        exact hret ((upd (upd f (a1 s e) (iI ((v (a1 s e)) - (((1 : Nat) : Int) * (am s e))))) (a2 s e) (iI ((v (a2 s e)) + (((1 : Nat) : Int) * (am s e)))))) H locs _ ls (cnt_tt hV (tk_t (by omega)) c45 (h12 (tk_t (by omega))) (addV_hw1 s v e)) (hP.sub [0, 1, 2] rfl) (hD.sub [0, 1, 2] (by decide) rfl) hS dX8_counts_70
set_option maxHeartbeats 4000000 in
set_option maxRecDepth 100000 in
theorem kX8_counts__m (ln : Launch) (dg : va_G) (tq : ClassId × ClassId) (m0 ms mw mt su pt td wy : Nat) (xs xt xa : Int32) (s f : Row) (hW : WF s) (v : Nat → Int) (hV : SV f v) (e : Nat) (he : e < nE s) : MV ln yX8_counts wsX8_counts (rmm 1 22) dg tq [.ref m0, .int (nI e), .int (iI (-1))] [(m0, .inr (8, [.ref ms, .ref mw, .int xs, .ref mt, .int xt, .int xa, .ref su, .ref pt, .ref td, .ref wy])), (ms, .inl (tq.1, 1445, .inl s)), (su, .inl (tq.1, 6, .inl f))] (fun (u : Row) => SV u (subV s v e)) (fun u => [(m0, .inr (8, [.ref ms, .ref mw, .int xs, .ref mt, .int xt, .int xa, .ref su, .ref pt, .ref td, .ref wy])), (ms, .inl (tq.1, 1445, .inl s)), (su, .inl (tq.1, 6, .inl u))]) := by
  refine MV.enter cX8_counts 4 (by decide) rfl rfl (Nat.le_of_ble_eq_true rfl) ?_
  intro pP eE sS mM aA bB mT cC QQ AA hA hAT hret H locs hP hD hS ls hl
  obtain ⟨hx, hb, hml, hown, hts, hK, hN⟩ := hAT
  have hown : sS.vm.findClass RX8 = some mM.cls := hown
  have hl : lv_has ls 4 [(0, .ref m0), (1, .int (nI e)), (2, .int (iI (-1)))] := hl
  have in8 : ∀ w ∈ u_ws RX8 TX8 10, w ∈ wsX8_counts := (fun _ h9 => List.mem_cons_of_mem _ (List.mem_append_right _ h9))
  have f20 := hts (.fieldLink RX8 20 "OrphanChainModel" "sums" "[I") (List.mem_of_getElem? (i := 1) rfl)
  have hn60 := hW.n60
  have hb10 := hW.b10
  have hs8 := hW.s8
  have hhn := hW.hn
  have h1l := hW.a1l he
  have h2l := hW.a2l he
  have h12 := fun h => hW.a12 he h
  refine lv_aload_n hx hb dX8_counts_0 rfl (lv_at hl 0 rfl) ?_
  refine lv_iload_n hx hb dX8_counts_1 rfl (lv_at hl 1 rfl) ?_
  refine lv_iconst (v := (nI 1)) hx hb dX8_counts_2 (by decide) ?_
  refine call_x (va_runV (As := [.int (nI e), .int (nI 1)]) (rest := []) ⟨hx, hb, hml, hown, hts⟩ (kX8_en ln dg tq (m0 := m0) (ms := ms) (mw := mw) (mt := mt) (su := su) (pt := pt) (td := td) (wy := wy) (xs := xs) (xt := xt) (xa := xa) (s := s) (e := e) (f := 1) (he := (by omega)) (hf := (by omega)) H.size) (cwV 2 hts gX8_counts_X8_en rfl rfl rfl hdX8_en ⟨Nat.le_of_ble_eq_true rfl, Nat.le_of_ble_eq_true rfl⟩) (preVR hK hN hP [0, 1] rfl 0 rfl rfl [.int (nI e), .int (nI 1)]) rfl rfl hl.1 rfl (lv_room (Nat.le_of_ble_eq_true rfl)) dX8_counts_3 ⟨Nat.le_refl _, Nat.le_refl _⟩) hP hS hA (fun H locs hP hS => ?_)
  refine r_top (show (s (5 + 7 * e + 1)) = (me s e 1) from rfl) ?_
  refine lv_istore_n (lv' := [(3, .int (me s e 1)), (0, .ref m0), (1, .int (nI e)), (2, .int (iI (-1)))]) hx hb dX8_counts_6 rfl hl (by decide) rfl (fun ls hl => ?_)
  refine lv_iload_n hx hb dX8_counts_7 rfl (lv_at hl 0 rfl) ?_
  refine lv_iconst (v := (nI 2)) hx hb dX8_counts_8 (by decide) ?_
  refine r_icmp_eq (tgt := 17) hx hb rfl (nI_tI (by omega)) dX8_counts_9 (by decide) (fun c9 => ?_) (fun c9 => ?_)
  · skip
    refine lv_aload_n hx hb dX8_counts_17 rfl (lv_at hl 1 rfl) ?_
    refine va_get (D := dg) (ci := 8) (v := .ref su) (C := RX8) (T := TX8) (N := 10) hx hb hts in8 hown hK hP 0 rfl rfl 6 (by decide) f20 (fun _ h9 => h9) rfl dX8_counts_18 ?_
    refine lv_aload_n hx hb dX8_counts_21 rfl (lv_at hl 1 rfl) ?_
    refine lv_iload_n hx hb dX8_counts_22 rfl (lv_at hl 2 rfl) ?_
    refine lv_iconst (v := (nI 2)) hx hb dX8_counts_23 (by decide) ?_
    refine call_x (va_runV (As := [.int (nI e), .int (nI 2)]) (rest := [.ref su]) ⟨hx, hb, hml, hown, hts⟩ (kX8_en ln dg tq (m0 := m0) (ms := ms) (mw := mw) (mt := mt) (su := su) (pt := pt) (td := td) (wy := wy) (xs := xs) (xt := xt) (xa := xa) (s := s) (e := e) (f := 2) (he := (by omega)) (hf := (by omega)) H.size) (cwV 2 hts gX8_counts_X8_en rfl rfl rfl hdX8_en ⟨Nat.le_of_ble_eq_true rfl, Nat.le_of_ble_eq_true rfl⟩) (preVR hK hN hP [0, 1] rfl 0 rfl rfl [.int (nI e), .int (nI 2)]) rfl rfl hl.1 rfl (lv_room (Nat.le_of_ble_eq_true rfl)) dX8_counts_24 ⟨Nat.le_refl _, Nat.le_refl _⟩) hP hS hA (fun H locs hP hS => ?_)
    refine r_top (show (s (5 + 7 * e + 2)) = (nI (a1 s e)) from (hW.e (e := e) (by omega)).2.1) ?_
    refine lv_dup2_11 hx hb dX8_counts_27 rfl rfl ?_
    refine r_iald_n hx hb hK hP 2 rfl (k := (a1 s e)) (by omega) (by omega) dX8_counts_28 ?_
    refine r_top (show (f (a1 s e)) = (iI (v (a1 s e))) from hV _ h1l) ?_
    refine lv_iload_n hx hb dX8_counts_29 rfl (lv_at hl 3 rfl) ?_
    refine lv_aload_n hx hb dX8_counts_30 rfl (lv_at hl 1 rfl) ?_
    refine lv_iload_n hx hb dX8_counts_31 rfl (lv_at hl 2 rfl) ?_
    refine lv_iconst (v := (nI 4)) hx hb dX8_counts_32 (by decide) ?_
    refine call_x (va_runV (As := [.int (nI e), .int (nI 4)]) (rest := [.int (iI (-1)), .int (iI (v (a1 s e))), .int (nI (a1 s e)), .ref su]) ⟨hx, hb, hml, hown, hts⟩ (kX8_en ln dg tq (m0 := m0) (ms := ms) (mw := mw) (mt := mt) (su := su) (pt := pt) (td := td) (wy := wy) (xs := xs) (xt := xt) (xa := xa) (s := s) (e := e) (f := 4) (he := (by omega)) (hf := (by omega)) H.size) (cwV 2 hts gX8_counts_X8_en rfl rfl rfl hdX8_en ⟨Nat.le_of_ble_eq_true rfl, Nat.le_of_ble_eq_true rfl⟩) (preVR hK hN hP [0, 1] rfl 0 rfl rfl [.int (nI e), .int (nI 4)]) rfl rfl hl.1 rfl (lv_room (Nat.le_of_ble_eq_true rfl)) dX8_counts_33 ⟨Nat.le_refl _, Nat.le_refl _⟩) hP hS hA (fun H locs hP hS => ?_)
    refine r_top (show (s (5 + 7 * e + 4)) = (iI (am s e)) from am_iI s e) ?_
    refine r_imul_z hx hb rfl rfl dX8_counts_36 ?_
    refine r_isub_z hx hb rfl rfl dX8_counts_37 ?_
    refine r_iast_n hx hb hK hP hD hS 2 rfl (k := (a1 s e)) (by omega) (by omega) dX8_counts_38 (fun H locs hP hD hS => ?_)
    have hP : va_P dg vwCl [(m0, .inr (8, [.ref ms, .ref mw, .int xs, .ref mt, .int xt, .int xa, .ref su, .ref pt, .ref td, .ref wy])), (ms, .inl (tq.1, 1445, .inl s)), (su, .inl (tq.1, 6, .inl (upd f (a1 s e) (iI ((v (a1 s e)) - ((-1) * (am s e)))))))] H := hP
    have hD : va_D AA [(m0, .inr (8, [.ref ms, .ref mw, .int xs, .ref mt, .int xt, .int xa, .ref su, .ref pt, .ref td, .ref wy])), (ms, .inl (tq.1, 1445, .inl s)), (su, .inl (tq.1, 6, .inl (upd f (a1 s e) (iI ((v (a1 s e)) - ((-1) * (am s e)))))))] := hD
    refine lv_iload_n hx hb dX8_counts_39 rfl (lv_at hl 0 rfl) ?_
    refine lv_iconst (v := (nI 1)) hx hb dX8_counts_40 (by decide) ?_
    refine lv_iconst (v := (nI 3)) hx hb dX8_counts_41 (by decide) ?_
    refine call_x (va_runS (As := [.int (me s e 1), .int (nI 1), .int (nI 3)]) (rest := []) ⟨hx, hb, hml, hown, hts⟩ (kX8_in ln dg tq (v := (me s e 1)) (lo := (nI 1)) (hi := (nI 3)) H.size) (va_cwS 3 hts gX8_counts_X8_in rfl rfl rfl hdX8_in.2 ⟨Nat.le_of_ble_eq_true rfl, Nat.le_of_ble_eq_true rfl⟩) (preS0 hK hN [.int (me s e 1), .int (nI 1), .int (nI 3)]) rfl rfl hl.1 rfl (lv_room (Nat.le_of_ble_eq_true rfl)) dX8_counts_42 ⟨Nat.le_refl _, Nat.le_refl _⟩) hP hS hA (fun H locs hP hS => ?_)
    refine r_top (show (bI (inR (me s e 1) (nI 1) (nI 3))) = (bI (bg s e)) from congrArg bI (bg_in s e)) ?_
    refine r_if_eq_b (tgt := 70) hx hb dX8_counts_45 (by decide) (fun c45 => ?_) (fun c45 => ?_)
    · skip
      exact hret ((upd f (a1 s e) (iI ((v (a1 s e)) - ((-1) * (am s e)))))) H locs _ ls (cnt_tf hV (tk_t (by omega)) c45 (subV_hw s v e)) (hP.sub [0, 1, 2] rfl) (hD.sub [0, 1, 2] (by decide) rfl) hS dX8_counts_70
    · skip
      refine lv_aload_n hx hb dX8_counts_48 rfl (lv_at hl 1 rfl) ?_
      refine va_get (D := dg) (ci := 8) (v := .ref su) (C := RX8) (T := TX8) (N := 10) hx hb hts in8 hown hK hP 0 rfl rfl 6 (by decide) f20 (fun _ h9 => h9) rfl dX8_counts_49 ?_
      refine lv_aload_n hx hb dX8_counts_52 rfl (lv_at hl 1 rfl) ?_
      refine lv_iload_n hx hb dX8_counts_53 rfl (lv_at hl 2 rfl) ?_
      refine lv_iconst (v := (nI 3)) hx hb dX8_counts_54 (by decide) ?_
      refine call_x (va_runV (As := [.int (nI e), .int (nI 3)]) (rest := [.ref su]) ⟨hx, hb, hml, hown, hts⟩ (kX8_en ln dg tq (m0 := m0) (ms := ms) (mw := mw) (mt := mt) (su := su) (pt := pt) (td := td) (wy := wy) (xs := xs) (xt := xt) (xa := xa) (s := s) (e := e) (f := 3) (he := (by omega)) (hf := (by omega)) H.size) (cwV 2 hts gX8_counts_X8_en rfl rfl rfl hdX8_en ⟨Nat.le_of_ble_eq_true rfl, Nat.le_of_ble_eq_true rfl⟩) (preVR hK hN hP [0, 1] rfl 0 rfl rfl [.int (nI e), .int (nI 3)]) rfl rfl hl.1 rfl (lv_room (Nat.le_of_ble_eq_true rfl)) dX8_counts_55 ⟨Nat.le_refl _, Nat.le_refl _⟩) hP hS hA (fun H locs hP hS => ?_)
      refine r_top (show (s (5 + 7 * e + 3)) = (nI (a2 s e)) from (hW.e (e := e) (by omega)).2.2.2.1) ?_
      refine lv_dup2_11 hx hb dX8_counts_58 rfl rfl ?_
      refine r_iald_n hx hb hK hP 2 rfl (k := (a2 s e)) (by omega) (by omega) dX8_counts_59 ?_
      refine r_top (show ((upd f (a1 s e) (iI ((v (a1 s e)) - ((-1) * (am s e))))) (a2 s e)) = (iI (v (a2 s e))) from by rw [pk_un (Ne.symm (h12 (tk_t (by omega))))]; exact hV _ h2l) ?_
      refine lv_iload_n hx hb dX8_counts_60 rfl (lv_at hl 3 rfl) ?_
      refine lv_aload_n hx hb dX8_counts_61 rfl (lv_at hl 1 rfl) ?_
      refine lv_iload_n hx hb dX8_counts_62 rfl (lv_at hl 2 rfl) ?_
      refine lv_iconst (v := (nI 4)) hx hb dX8_counts_63 (by decide) ?_
      refine call_x (va_runV (As := [.int (nI e), .int (nI 4)]) (rest := [.int (iI (-1)), .int (iI (v (a2 s e))), .int (nI (a2 s e)), .ref su]) ⟨hx, hb, hml, hown, hts⟩ (kX8_en ln dg tq (m0 := m0) (ms := ms) (mw := mw) (mt := mt) (su := su) (pt := pt) (td := td) (wy := wy) (xs := xs) (xt := xt) (xa := xa) (s := s) (e := e) (f := 4) (he := (by omega)) (hf := (by omega)) H.size) (cwV 2 hts gX8_counts_X8_en rfl rfl rfl hdX8_en ⟨Nat.le_of_ble_eq_true rfl, Nat.le_of_ble_eq_true rfl⟩) (preVR hK hN hP [0, 1] rfl 0 rfl rfl [.int (nI e), .int (nI 4)]) rfl rfl hl.1 rfl (lv_room (Nat.le_of_ble_eq_true rfl)) dX8_counts_64 ⟨Nat.le_refl _, Nat.le_refl _⟩) hP hS hA (fun H locs hP hS => ?_)
      refine r_top (show (s (5 + 7 * e + 4)) = (iI (am s e)) from am_iI s e) ?_
      refine r_imul_z hx hb rfl rfl dX8_counts_67 ?_
      refine r_iadd_z hx hb rfl rfl dX8_counts_68 ?_
      refine r_iast_n hx hb hK hP hD hS 2 rfl (k := (a2 s e)) (by omega) (by omega) dX8_counts_69 (fun H locs hP hD hS => ?_)
      have hP : va_P dg vwCl [(m0, .inr (8, [.ref ms, .ref mw, .int xs, .ref mt, .int xt, .int xa, .ref su, .ref pt, .ref td, .ref wy])), (ms, .inl (tq.1, 1445, .inl s)), (su, .inl (tq.1, 6, .inl (upd (upd f (a1 s e) (iI ((v (a1 s e)) - ((-1) * (am s e))))) (a2 s e) (iI ((v (a2 s e)) + ((-1) * (am s e)))))))] H := hP
      have hD : va_D AA [(m0, .inr (8, [.ref ms, .ref mw, .int xs, .ref mt, .int xt, .int xa, .ref su, .ref pt, .ref td, .ref wy])), (ms, .inl (tq.1, 1445, .inl s)), (su, .inl (tq.1, 6, .inl (upd (upd f (a1 s e) (iI ((v (a1 s e)) - ((-1) * (am s e))))) (a2 s e) (iI ((v (a2 s e)) + ((-1) * (am s e)))))))] := hD
      exact hret ((upd (upd f (a1 s e) (iI ((v (a1 s e)) - ((-1) * (am s e))))) (a2 s e) (iI ((v (a2 s e)) + ((-1) * (am s e)))))) H locs _ ls (cnt_tt hV (tk_t (by omega)) c45 (h12 (tk_t (by omega))) (subV_hw s v e)) (hP.sub [0, 1, 2] rfl) (hD.sub [0, 1, 2] (by decide) rfl) hS dX8_counts_70
  · skip
    refine lv_iload_n hx hb dX8_counts_12 rfl (lv_at hl 0 rfl) ?_
    refine lv_iconst (v := (nI 3)) hx hb dX8_counts_13 (by decide) ?_
    refine r_icmp_ne (tgt := 39) hx hb rfl (nI_tI (by omega)) dX8_counts_14 (by decide) (fun c14 => ?_) (fun c14 => ?_)
    · skip
      refine lv_iload_n hx hb dX8_counts_39 rfl (lv_at hl 0 rfl) ?_
      refine lv_iconst (v := (nI 1)) hx hb dX8_counts_40 (by decide) ?_
      refine lv_iconst (v := (nI 3)) hx hb dX8_counts_41 (by decide) ?_
      refine call_x (va_runS (As := [.int (me s e 1), .int (nI 1), .int (nI 3)]) (rest := []) ⟨hx, hb, hml, hown, hts⟩ (kX8_in ln dg tq (v := (me s e 1)) (lo := (nI 1)) (hi := (nI 3)) H.size) (va_cwS 3 hts gX8_counts_X8_in rfl rfl rfl hdX8_in.2 ⟨Nat.le_of_ble_eq_true rfl, Nat.le_of_ble_eq_true rfl⟩) (preS0 hK hN [.int (me s e 1), .int (nI 1), .int (nI 3)]) rfl rfl hl.1 rfl (lv_room (Nat.le_of_ble_eq_true rfl)) dX8_counts_42 ⟨Nat.le_refl _, Nat.le_refl _⟩) hP hS hA (fun H locs hP hS => ?_)
      refine r_top (show (bI (inR (me s e 1) (nI 1) (nI 3))) = (bI (bg s e)) from congrArg bI (bg_in s e)) ?_
      refine r_if_eq_b (tgt := 70) hx hb dX8_counts_45 (by decide) (fun c45 => ?_) (fun c45 => ?_)
      · skip
        exact hret (f) H locs _ ls (cnt_ff hV (tk_f (by omega)) c45 (subV_hw s v e)) (hP.sub [0, 1, 2] rfl) (hD.sub [0, 1, 2] (by decide) rfl) hS dX8_counts_70
      · skip
        refine lv_aload_n hx hb dX8_counts_48 rfl (lv_at hl 1 rfl) ?_
        refine va_get (D := dg) (ci := 8) (v := .ref su) (C := RX8) (T := TX8) (N := 10) hx hb hts in8 hown hK hP 0 rfl rfl 6 (by decide) f20 (fun _ h9 => h9) rfl dX8_counts_49 ?_
        refine lv_aload_n hx hb dX8_counts_52 rfl (lv_at hl 1 rfl) ?_
        refine lv_iload_n hx hb dX8_counts_53 rfl (lv_at hl 2 rfl) ?_
        refine lv_iconst (v := (nI 3)) hx hb dX8_counts_54 (by decide) ?_
        refine call_x (va_runV (As := [.int (nI e), .int (nI 3)]) (rest := [.ref su]) ⟨hx, hb, hml, hown, hts⟩ (kX8_en ln dg tq (m0 := m0) (ms := ms) (mw := mw) (mt := mt) (su := su) (pt := pt) (td := td) (wy := wy) (xs := xs) (xt := xt) (xa := xa) (s := s) (e := e) (f := 3) (he := (by omega)) (hf := (by omega)) H.size) (cwV 2 hts gX8_counts_X8_en rfl rfl rfl hdX8_en ⟨Nat.le_of_ble_eq_true rfl, Nat.le_of_ble_eq_true rfl⟩) (preVR hK hN hP [0, 1] rfl 0 rfl rfl [.int (nI e), .int (nI 3)]) rfl rfl hl.1 rfl (lv_room (Nat.le_of_ble_eq_true rfl)) dX8_counts_55 ⟨Nat.le_refl _, Nat.le_refl _⟩) hP hS hA (fun H locs hP hS => ?_)
        refine r_top (show (s (5 + 7 * e + 3)) = (nI (a2 s e)) from (hW.e (e := e) (by omega)).2.2.2.1) ?_
        refine lv_dup2_11 hx hb dX8_counts_58 rfl rfl ?_
        refine r_iald_n hx hb hK hP 2 rfl (k := (a2 s e)) (by omega) (by omega) dX8_counts_59 ?_
        refine r_top (show (f (a2 s e)) = (iI (v (a2 s e))) from hV _ h2l) ?_
        refine lv_iload_n hx hb dX8_counts_60 rfl (lv_at hl 3 rfl) ?_
        refine lv_aload_n hx hb dX8_counts_61 rfl (lv_at hl 1 rfl) ?_
        refine lv_iload_n hx hb dX8_counts_62 rfl (lv_at hl 2 rfl) ?_
        refine lv_iconst (v := (nI 4)) hx hb dX8_counts_63 (by decide) ?_
        refine call_x (va_runV (As := [.int (nI e), .int (nI 4)]) (rest := [.int (iI (-1)), .int (iI (v (a2 s e))), .int (nI (a2 s e)), .ref su]) ⟨hx, hb, hml, hown, hts⟩ (kX8_en ln dg tq (m0 := m0) (ms := ms) (mw := mw) (mt := mt) (su := su) (pt := pt) (td := td) (wy := wy) (xs := xs) (xt := xt) (xa := xa) (s := s) (e := e) (f := 4) (he := (by omega)) (hf := (by omega)) H.size) (cwV 2 hts gX8_counts_X8_en rfl rfl rfl hdX8_en ⟨Nat.le_of_ble_eq_true rfl, Nat.le_of_ble_eq_true rfl⟩) (preVR hK hN hP [0, 1] rfl 0 rfl rfl [.int (nI e), .int (nI 4)]) rfl rfl hl.1 rfl (lv_room (Nat.le_of_ble_eq_true rfl)) dX8_counts_64 ⟨Nat.le_refl _, Nat.le_refl _⟩) hP hS hA (fun H locs hP hS => ?_)
        refine r_top (show (s (5 + 7 * e + 4)) = (iI (am s e)) from am_iI s e) ?_
        refine r_imul_z hx hb rfl rfl dX8_counts_67 ?_
        refine r_iadd_z hx hb rfl rfl dX8_counts_68 ?_
        refine r_iast_n hx hb hK hP hD hS 2 rfl (k := (a2 s e)) (by omega) (by omega) dX8_counts_69 (fun H locs hP hD hS => ?_)
        have hP : va_P dg vwCl [(m0, .inr (8, [.ref ms, .ref mw, .int xs, .ref mt, .int xt, .int xa, .ref su, .ref pt, .ref td, .ref wy])), (ms, .inl (tq.1, 1445, .inl s)), (su, .inl (tq.1, 6, .inl (upd f (a2 s e) (iI ((v (a2 s e)) + ((-1) * (am s e)))))))] H := hP
        have hD : va_D AA [(m0, .inr (8, [.ref ms, .ref mw, .int xs, .ref mt, .int xt, .int xa, .ref su, .ref pt, .ref td, .ref wy])), (ms, .inl (tq.1, 1445, .inl s)), (su, .inl (tq.1, 6, .inl (upd f (a2 s e) (iI ((v (a2 s e)) + ((-1) * (am s e)))))))] := hD
        exact hret ((upd f (a2 s e) (iI ((v (a2 s e)) + ((-1) * (am s e)))))) H locs _ ls (cnt_ft hV (tk_f (by omega)) c45 (subV_hw s v e)) (hP.sub [0, 1, 2] rfl) (hD.sub [0, 1, 2] (by decide) rfl) hS dX8_counts_70
    · skip
      refine lv_aload_n hx hb dX8_counts_17 rfl (lv_at hl 1 rfl) ?_
      refine va_get (D := dg) (ci := 8) (v := .ref su) (C := RX8) (T := TX8) (N := 10) hx hb hts in8 hown hK hP 0 rfl rfl 6 (by decide) f20 (fun _ h9 => h9) rfl dX8_counts_18 ?_
      refine lv_aload_n hx hb dX8_counts_21 rfl (lv_at hl 1 rfl) ?_
      refine lv_iload_n hx hb dX8_counts_22 rfl (lv_at hl 2 rfl) ?_
      refine lv_iconst (v := (nI 2)) hx hb dX8_counts_23 (by decide) ?_
      refine call_x (va_runV (As := [.int (nI e), .int (nI 2)]) (rest := [.ref su]) ⟨hx, hb, hml, hown, hts⟩ (kX8_en ln dg tq (m0 := m0) (ms := ms) (mw := mw) (mt := mt) (su := su) (pt := pt) (td := td) (wy := wy) (xs := xs) (xt := xt) (xa := xa) (s := s) (e := e) (f := 2) (he := (by omega)) (hf := (by omega)) H.size) (cwV 2 hts gX8_counts_X8_en rfl rfl rfl hdX8_en ⟨Nat.le_of_ble_eq_true rfl, Nat.le_of_ble_eq_true rfl⟩) (preVR hK hN hP [0, 1] rfl 0 rfl rfl [.int (nI e), .int (nI 2)]) rfl rfl hl.1 rfl (lv_room (Nat.le_of_ble_eq_true rfl)) dX8_counts_24 ⟨Nat.le_refl _, Nat.le_refl _⟩) hP hS hA (fun H locs hP hS => ?_)
      refine r_top (show (s (5 + 7 * e + 2)) = (nI (a1 s e)) from (hW.e (e := e) (by omega)).2.1) ?_
      refine lv_dup2_11 hx hb dX8_counts_27 rfl rfl ?_
      refine r_iald_n hx hb hK hP 2 rfl (k := (a1 s e)) (by omega) (by omega) dX8_counts_28 ?_
      refine r_top (show (f (a1 s e)) = (iI (v (a1 s e))) from hV _ h1l) ?_
      refine lv_iload_n hx hb dX8_counts_29 rfl (lv_at hl 3 rfl) ?_
      refine lv_aload_n hx hb dX8_counts_30 rfl (lv_at hl 1 rfl) ?_
      refine lv_iload_n hx hb dX8_counts_31 rfl (lv_at hl 2 rfl) ?_
      refine lv_iconst (v := (nI 4)) hx hb dX8_counts_32 (by decide) ?_
      refine call_x (va_runV (As := [.int (nI e), .int (nI 4)]) (rest := [.int (iI (-1)), .int (iI (v (a1 s e))), .int (nI (a1 s e)), .ref su]) ⟨hx, hb, hml, hown, hts⟩ (kX8_en ln dg tq (m0 := m0) (ms := ms) (mw := mw) (mt := mt) (su := su) (pt := pt) (td := td) (wy := wy) (xs := xs) (xt := xt) (xa := xa) (s := s) (e := e) (f := 4) (he := (by omega)) (hf := (by omega)) H.size) (cwV 2 hts gX8_counts_X8_en rfl rfl rfl hdX8_en ⟨Nat.le_of_ble_eq_true rfl, Nat.le_of_ble_eq_true rfl⟩) (preVR hK hN hP [0, 1] rfl 0 rfl rfl [.int (nI e), .int (nI 4)]) rfl rfl hl.1 rfl (lv_room (Nat.le_of_ble_eq_true rfl)) dX8_counts_33 ⟨Nat.le_refl _, Nat.le_refl _⟩) hP hS hA (fun H locs hP hS => ?_)
      refine r_top (show (s (5 + 7 * e + 4)) = (iI (am s e)) from am_iI s e) ?_
      refine r_imul_z hx hb rfl rfl dX8_counts_36 ?_
      refine r_isub_z hx hb rfl rfl dX8_counts_37 ?_
      refine r_iast_n hx hb hK hP hD hS 2 rfl (k := (a1 s e)) (by omega) (by omega) dX8_counts_38 (fun H locs hP hD hS => ?_)
      have hP : va_P dg vwCl [(m0, .inr (8, [.ref ms, .ref mw, .int xs, .ref mt, .int xt, .int xa, .ref su, .ref pt, .ref td, .ref wy])), (ms, .inl (tq.1, 1445, .inl s)), (su, .inl (tq.1, 6, .inl (upd f (a1 s e) (iI ((v (a1 s e)) - ((-1) * (am s e)))))))] H := hP
      have hD : va_D AA [(m0, .inr (8, [.ref ms, .ref mw, .int xs, .ref mt, .int xt, .int xa, .ref su, .ref pt, .ref td, .ref wy])), (ms, .inl (tq.1, 1445, .inl s)), (su, .inl (tq.1, 6, .inl (upd f (a1 s e) (iI ((v (a1 s e)) - ((-1) * (am s e)))))))] := hD
      refine lv_iload_n hx hb dX8_counts_39 rfl (lv_at hl 0 rfl) ?_
      refine lv_iconst (v := (nI 1)) hx hb dX8_counts_40 (by decide) ?_
      refine lv_iconst (v := (nI 3)) hx hb dX8_counts_41 (by decide) ?_
      refine call_x (va_runS (As := [.int (me s e 1), .int (nI 1), .int (nI 3)]) (rest := []) ⟨hx, hb, hml, hown, hts⟩ (kX8_in ln dg tq (v := (me s e 1)) (lo := (nI 1)) (hi := (nI 3)) H.size) (va_cwS 3 hts gX8_counts_X8_in rfl rfl rfl hdX8_in.2 ⟨Nat.le_of_ble_eq_true rfl, Nat.le_of_ble_eq_true rfl⟩) (preS0 hK hN [.int (me s e 1), .int (nI 1), .int (nI 3)]) rfl rfl hl.1 rfl (lv_room (Nat.le_of_ble_eq_true rfl)) dX8_counts_42 ⟨Nat.le_refl _, Nat.le_refl _⟩) hP hS hA (fun H locs hP hS => ?_)
      refine r_top (show (bI (inR (me s e 1) (nI 1) (nI 3))) = (bI (bg s e)) from congrArg bI (bg_in s e)) ?_
      refine r_if_eq_b (tgt := 70) hx hb dX8_counts_45 (by decide) (fun c45 => ?_) (fun c45 => ?_)
      · skip
        exact hret ((upd f (a1 s e) (iI ((v (a1 s e)) - ((-1) * (am s e)))))) H locs _ ls (cnt_tf hV (tk_t (by omega)) c45 (subV_hw s v e)) (hP.sub [0, 1, 2] rfl) (hD.sub [0, 1, 2] (by decide) rfl) hS dX8_counts_70
      · skip
        refine lv_aload_n hx hb dX8_counts_48 rfl (lv_at hl 1 rfl) ?_
        refine va_get (D := dg) (ci := 8) (v := .ref su) (C := RX8) (T := TX8) (N := 10) hx hb hts in8 hown hK hP 0 rfl rfl 6 (by decide) f20 (fun _ h9 => h9) rfl dX8_counts_49 ?_
        refine lv_aload_n hx hb dX8_counts_52 rfl (lv_at hl 1 rfl) ?_
        refine lv_iload_n hx hb dX8_counts_53 rfl (lv_at hl 2 rfl) ?_
        refine lv_iconst (v := (nI 3)) hx hb dX8_counts_54 (by decide) ?_
        refine call_x (va_runV (As := [.int (nI e), .int (nI 3)]) (rest := [.ref su]) ⟨hx, hb, hml, hown, hts⟩ (kX8_en ln dg tq (m0 := m0) (ms := ms) (mw := mw) (mt := mt) (su := su) (pt := pt) (td := td) (wy := wy) (xs := xs) (xt := xt) (xa := xa) (s := s) (e := e) (f := 3) (he := (by omega)) (hf := (by omega)) H.size) (cwV 2 hts gX8_counts_X8_en rfl rfl rfl hdX8_en ⟨Nat.le_of_ble_eq_true rfl, Nat.le_of_ble_eq_true rfl⟩) (preVR hK hN hP [0, 1] rfl 0 rfl rfl [.int (nI e), .int (nI 3)]) rfl rfl hl.1 rfl (lv_room (Nat.le_of_ble_eq_true rfl)) dX8_counts_55 ⟨Nat.le_refl _, Nat.le_refl _⟩) hP hS hA (fun H locs hP hS => ?_)
        refine r_top (show (s (5 + 7 * e + 3)) = (nI (a2 s e)) from (hW.e (e := e) (by omega)).2.2.2.1) ?_
        refine lv_dup2_11 hx hb dX8_counts_58 rfl rfl ?_
        refine r_iald_n hx hb hK hP 2 rfl (k := (a2 s e)) (by omega) (by omega) dX8_counts_59 ?_
        refine r_top (show ((upd f (a1 s e) (iI ((v (a1 s e)) - ((-1) * (am s e))))) (a2 s e)) = (iI (v (a2 s e))) from by rw [pk_un (Ne.symm (h12 (tk_t (by omega))))]; exact hV _ h2l) ?_
        refine lv_iload_n hx hb dX8_counts_60 rfl (lv_at hl 3 rfl) ?_
        refine lv_aload_n hx hb dX8_counts_61 rfl (lv_at hl 1 rfl) ?_
        refine lv_iload_n hx hb dX8_counts_62 rfl (lv_at hl 2 rfl) ?_
        refine lv_iconst (v := (nI 4)) hx hb dX8_counts_63 (by decide) ?_
        refine call_x (va_runV (As := [.int (nI e), .int (nI 4)]) (rest := [.int (iI (-1)), .int (iI (v (a2 s e))), .int (nI (a2 s e)), .ref su]) ⟨hx, hb, hml, hown, hts⟩ (kX8_en ln dg tq (m0 := m0) (ms := ms) (mw := mw) (mt := mt) (su := su) (pt := pt) (td := td) (wy := wy) (xs := xs) (xt := xt) (xa := xa) (s := s) (e := e) (f := 4) (he := (by omega)) (hf := (by omega)) H.size) (cwV 2 hts gX8_counts_X8_en rfl rfl rfl hdX8_en ⟨Nat.le_of_ble_eq_true rfl, Nat.le_of_ble_eq_true rfl⟩) (preVR hK hN hP [0, 1] rfl 0 rfl rfl [.int (nI e), .int (nI 4)]) rfl rfl hl.1 rfl (lv_room (Nat.le_of_ble_eq_true rfl)) dX8_counts_64 ⟨Nat.le_refl _, Nat.le_refl _⟩) hP hS hA (fun H locs hP hS => ?_)
        refine r_top (show (s (5 + 7 * e + 4)) = (iI (am s e)) from am_iI s e) ?_
        refine r_imul_z hx hb rfl rfl dX8_counts_67 ?_
        refine r_iadd_z hx hb rfl rfl dX8_counts_68 ?_
        refine r_iast_n hx hb hK hP hD hS 2 rfl (k := (a2 s e)) (by omega) (by omega) dX8_counts_69 (fun H locs hP hD hS => ?_)
        have hP : va_P dg vwCl [(m0, .inr (8, [.ref ms, .ref mw, .int xs, .ref mt, .int xt, .int xa, .ref su, .ref pt, .ref td, .ref wy])), (ms, .inl (tq.1, 1445, .inl s)), (su, .inl (tq.1, 6, .inl (upd (upd f (a1 s e) (iI ((v (a1 s e)) - ((-1) * (am s e))))) (a2 s e) (iI ((v (a2 s e)) + ((-1) * (am s e)))))))] H := hP
        have hD : va_D AA [(m0, .inr (8, [.ref ms, .ref mw, .int xs, .ref mt, .int xt, .int xa, .ref su, .ref pt, .ref td, .ref wy])), (ms, .inl (tq.1, 1445, .inl s)), (su, .inl (tq.1, 6, .inl (upd (upd f (a1 s e) (iI ((v (a1 s e)) - ((-1) * (am s e))))) (a2 s e) (iI ((v (a2 s e)) + ((-1) * (am s e)))))))] := hD
        exact hret ((upd (upd f (a1 s e) (iI ((v (a1 s e)) - ((-1) * (am s e))))) (a2 s e) (iI ((v (a2 s e)) + ((-1) * (am s e)))))) H locs _ ls (cnt_tt hV (tk_t (by omega)) c45 (h12 (tk_t (by omega))) (subV_hw s v e)) (hP.sub [0, 1, 2] rfl) (hD.sub [0, 1, 2] (by decide) rfl) hS dX8_counts_70
theorem hdX8_balances : yX8_balances.cls = RX8 ∧ yX8_balances.cls ≠ "java/lang/invoke/MethodHandle" ∧ yX8_balances.cls ≠ "java/lang/invoke/VarHandle" ∧ (parseMethodDescriptor yX8_balances.desc).map (fun d => d.parameters.length) = some 1 := by decide +kernel
set_option maxHeartbeats 4000000 in
set_option maxRecDepth 100000 in
theorem kX8_balances (ln : Launch) (dg : va_G) (tq : ClassId × ClassId) (m0 ms mw mt su pt td wy : Nat) (xs xt xa : Int32) (s f : Row) (hW : WF s) (y : Nat) (hy : y < nE s) : MV ln yX8_balances wsX8_balances (rmm 2 45) dg tq [.ref m0, .int (nI y)] [(m0, .inr (8, [.ref ms, .ref mw, .int xs, .ref mt, .int xt, .int xa, .ref su, .ref pt, .ref td, .ref wy])), (ms, .inl (tq.1, 1445, .inl s)), (su, .inl (tq.1, 6, .inl f))] (fun (u : Row) => SV u (bal s y)) (fun u => [(m0, .inr (8, [.ref ms, .ref mw, .int xs, .ref mt, .int xt, .int xa, .ref su, .ref pt, .ref td, .ref wy])), (ms, .inl (tq.1, 1445, .inl s)), (su, .inl (tq.1, 6, .inl u))]) := by
  refine MV.enter cX8_balances 3 (by decide) rfl rfl (Nat.le_of_ble_eq_true rfl) ?_
  intro pP eE sS mM aA bB mT cC QQ AA hA hAT hret H locs hP hD hS ls hl
  obtain ⟨hx, hb, hml, hown, hts, hK, hN⟩ := hAT
  have hown : sS.vm.findClass RX8 = some mM.cls := hown
  have hl : lv_has ls 3 [(0, .ref m0), (1, .int (nI y))] := hl
  have in8 : ∀ w ∈ u_ws RX8 TX8 10, w ∈ wsX8_balances := (fun _ h9 => List.mem_cons_of_mem _ (List.mem_append_right _ h9))
  have f20 := hts (.fieldLink RX8 20 "OrphanChainModel" "sums" "[I") (List.mem_of_getElem? (i := 1) rfl)
  have hn60 := hW.n60
  have hb10 := hW.b10
  have hs8 := hW.s8
  have hhn := hW.hn
  refine lv_iconst (v := (nI 0)) hx hb dX8_balances_0 (by decide) ?_
  refine lv_istore_n (lv' := [(2, .int (nI 0)), (0, .ref m0), (1, .int (nI y))]) hx hb dX8_balances_1 rfl hl (by decide) rfl (fun ls hl => ?_)
  have loop2 : ∀ (fu : Nat) (i_ : Nat) (f_ : Row) (H : Heap) (locs : List Loc) (ls : Array Slot), (i_ ≤ 6 ∧ (∀ a, a < i_ → f_ a = nI 0)) → 6 - i_ < fu → va_P dg vwCl [(m0, .inr (8, [.ref ms, .ref mw, .int xs, .ref mt, .int xt, .int xa, .ref su, .ref pt, .ref td, .ref wy])), (ms, .inl (tq.1, 1445, .inl s)), (su, .inl (tq.1, 6, .inl f_))] H → va_D AA [(m0, .inr (8, [.ref ms, .ref mw, .int xs, .ref mt, .int xt, .int xa, .ref su, .ref pt, .ref td, .ref wy])), (ms, .inl (tq.1, 1445, .inl s)), (su, .inl (tq.1, 6, .inl f_))] → va_S AA sS.heap H locs → lv_has ls 3 [(0, .ref m0), (1, .int (nI y)), (2, .int (nI i_))] → W pP ln eE (rmm 2 45) sS mM aA bB mT cC H locs 0 0 QQ (F0 mM 2 ls []) := by
    intro fu
    induction fu with
    | zero => intro i_ f_ H locs ls _ hm; exact absurd hm (Nat.not_lt_zero _)
    | succ fu ih2 =>
      intro i_ f_ H locs ls hinv hm hP hD hS hl
      obtain ⟨hi1, hi2⟩ := hinv
      refine lv_iload_n hx hb dX8_balances_2 rfl (lv_at hl 2 rfl) ?_
      refine lv_bipush (v := (nI 6)) hx hb dX8_balances_3 (by decide) ?_
      refine r_icmp_ge (tgt := 21) hx hb (nI_tI (by omega)) (nI_tI (by omega)) dX8_balances_5 (by decide) (fun c5 => ?_) (fun c5 => ?_)
      · skip
        refine lv_iload_n hx hb dX8_balances_21 rfl (lv_at hl 1 rfl) ?_
        refine lv_istore_n (lv' := [(2, .int (nI y)), (0, .ref m0), (1, .int (nI y))]) hx hb dX8_balances_22 rfl hl (by decide) rfl (fun ls hl => ?_)
        have loop23 : ∀ (fu : Nat) (at_ : Nat) (g_ : Row) (v_ : Nat → Int) (H : Heap) (locs : List Loc) (ls : Array Slot), (at_ ≤ y ∧ SV g_ v_ ∧ (∀ a, v_ a + bal s at_ a = bal s y a)) → at_ < fu → va_P dg vwCl [(m0, .inr (8, [.ref ms, .ref mw, .int xs, .ref mt, .int xt, .int xa, .ref su, .ref pt, .ref td, .ref wy])), (ms, .inl (tq.1, 1445, .inl s)), (su, .inl (tq.1, 6, .inl g_))] H → va_D AA [(m0, .inr (8, [.ref ms, .ref mw, .int xs, .ref mt, .int xt, .int xa, .ref su, .ref pt, .ref td, .ref wy])), (ms, .inl (tq.1, 1445, .inl s)), (su, .inl (tq.1, 6, .inl g_))] → va_S AA sS.heap H locs → lv_has ls 3 [(0, .ref m0), (1, .int (nI y)), (2, .int (nI at_))] → W pP ln eE (rmm 2 45) sS mM aA bB mT cC H locs 0 0 QQ (F0 mM 23 ls []) := by
          intro fu
          induction fu with
          | zero => intro at_ g_ v_ H locs ls _ hm; exact absurd hm (Nat.not_lt_zero _)
          | succ fu ih23 =>
            intro at_ g_ v_ H locs ls hinv hm hP hD hS hl
            obtain ⟨hj1, hV, hj3⟩ := hinv
            refine lv_iload_n hx hb dX8_balances_23 rfl (lv_at hl 2 rfl) ?_
            refine r_if_le (tgt := 43) hx hb (nI_tI (by omega)) dX8_balances_24 (by decide) (fun c24 => ?_) (fun c24 => ?_)
            · skip
              exact hret (g_) H locs _ ls (fun a ha => by rw [hV a ha]; congr 1; have h1 := hj3 a; rw [show at_ = 0 by omega, bal_0] at h1; omega) (hP.sub [0, 1, 2] rfl) (hD.sub [0, 1, 2] (by decide) rfl) hS dX8_balances_43
            · skip
              refine lv_aload_n hx hb dX8_balances_27 rfl (lv_at hl 0 rfl) ?_
              refine lv_iload_n hx hb dX8_balances_28 rfl (lv_at hl 2 rfl) ?_
              refine lv_iconst (v := (nI 1)) hx hb dX8_balances_29 (by decide) ?_
              refine call_v (wr := []) (va_runV (As := [.int (nI at_), .int (nI 1)]) (rest := []) ⟨hx, hb, hml, hown, hts⟩ (kX8_counts__p ln dg tq (m0 := m0) (ms := ms) (mw := mw) (mt := mt) (su := su) (pt := pt) (td := td) (wy := wy) (xs := xs) (xt := xt) (xa := xa) (s := s) (f := g_) (hW := hW) (v := v_) (hV := (by omega)) (e := at_) (he := (by omega)) H.size) (cwV 2 hts gX8_balances_X8_counts rfl rfl rfl hdX8_counts ⟨Nat.le_of_ble_eq_true rfl, Nat.le_of_ble_eq_true rfl⟩) (preVB hK hN hP hD [0, 1, 2] rfl rfl rfl 0 rfl rfl [.int (nI at_), .int (nI 1)]) rfl rfl hl.1 rfl (lv_room (Nat.le_of_ble_eq_true rfl)) dX8_balances_30 ⟨Nat.le_refl _, Nat.le_refl _⟩) hP hD hS hA [0, 1, 2] [] rfl rfl (by decide) (by decide) (fun u30 H locs hw30 hP hD hS => ?_)
              obtain ⟨g30, rfl⟩ : ∃ z, z = u30 := ⟨_, rfl⟩
              have hP : va_P dg vwCl [(m0, .inr (8, [.ref ms, .ref mw, .int xs, .ref mt, .int xt, .int xa, .ref su, .ref pt, .ref td, .ref wy])), (ms, .inl (tq.1, 1445, .inl s)), (su, .inl (tq.1, 6, .inl g30))] H := hP
              have hD : va_D AA [(m0, .inr (8, [.ref ms, .ref mw, .int xs, .ref mt, .int xt, .int xa, .ref su, .ref pt, .ref td, .ref wy])), (ms, .inl (tq.1, 1445, .inl s)), (su, .inl (tq.1, 6, .inl g30))] := hD
              refine lv_aload_n hx hb dX8_balances_33 rfl (lv_at hl 0 rfl) ?_
              refine lv_iload_n hx hb dX8_balances_34 rfl (lv_at hl 2 rfl) ?_
              refine lv_iconst (v := (nI 0)) hx hb dX8_balances_35 (by decide) ?_
              refine call_x (va_runV (As := [.int (nI at_), .int (nI 0)]) (rest := []) ⟨hx, hb, hml, hown, hts⟩ (kX8_en ln dg tq (m0 := m0) (ms := ms) (mw := mw) (mt := mt) (su := su) (pt := pt) (td := td) (wy := wy) (xs := xs) (xt := xt) (xa := xa) (s := s) (e := at_) (f := 0) (he := (by omega)) (hf := (by omega)) H.size) (cwV 2 hts gX8_balances_X8_en rfl rfl rfl hdX8_en ⟨Nat.le_of_ble_eq_true rfl, Nat.le_of_ble_eq_true rfl⟩) (preVR hK hN hP [0, 1] rfl 0 rfl rfl [.int (nI at_), .int (nI 0)]) rfl rfl hl.1 rfl (lv_room (Nat.le_of_ble_eq_true rfl)) dX8_balances_36 ⟨Nat.le_refl _, Nat.le_refl _⟩) hP hS hA (fun H locs hP hS => ?_)
              refine r_top (show (s (5 + 7 * at_ + 0)) = (nI (pa s at_)) from hW.p (by omega) (by omega)) ?_
              refine lv_istore_n (lv' := [(2, .int (nI (pa s at_))), (0, .ref m0), (1, .int (nI y))]) hx hb dX8_balances_39 rfl hl (by decide) rfl (fun ls hl => ?_)
              refine lv_goto (tgt := 23) hx hb dX8_balances_40 (by decide) ?_
              exact ih23 (pa s at_) g30 (addV s v_ at_) H locs ls (⟨by have hpl := hW.pl (e := at_) (by omega) (by omega); omega, hw30, fun a => by have h1 := hj3 a; have h2 := bal_s hW (e := at_) (by omega) (by omega) a; unfold addV; omega⟩) (by have hpl := hW.pl (e := at_) (by omega) (by omega); omega) (hP.sub [0, 1, 2] rfl) (hD.sub [0, 1, 2] (by decide) rfl) hS (lv_sub hl [1, 2, 0] rfl)
        exact loop23 _ y f_ (fun _ => 0) H locs ls (⟨by omega, SV_0 (fun a ha => hi2 a (by omega)), fun a => by omega⟩) (Nat.lt_succ_self _) (hP.sub [0, 1, 2] rfl) (hD.sub [0, 1, 2] (by decide) rfl) hS (lv_sub hl [1, 2, 0] rfl)
      · skip
        refine lv_aload_n hx hb dX8_balances_8 rfl (lv_at hl 0 rfl) ?_
        refine va_get (D := dg) (ci := 8) (v := .ref su) (C := RX8) (T := TX8) (N := 10) hx hb hts in8 hown hK hP 0 rfl rfl 6 (by decide) f20 (fun _ h9 => h9) rfl dX8_balances_9 ?_
        refine lv_iload_n hx hb dX8_balances_12 rfl (lv_at hl 2 rfl) ?_
        refine lv_iconst (v := (nI 0)) hx hb dX8_balances_13 (by decide) ?_
        refine r_iast_n hx hb hK hP hD hS 2 rfl (k := i_) (by omega) (by omega) dX8_balances_14 (fun H locs hP hD hS => ?_)
        have hP : va_P dg vwCl [(m0, .inr (8, [.ref ms, .ref mw, .int xs, .ref mt, .int xt, .int xa, .ref su, .ref pt, .ref td, .ref wy])), (ms, .inl (tq.1, 1445, .inl s)), (su, .inl (tq.1, 6, .inl (upd f_ i_ (nI 0))))] H := hP
        have hD : va_D AA [(m0, .inr (8, [.ref ms, .ref mw, .int xs, .ref mt, .int xt, .int xa, .ref su, .ref pt, .ref td, .ref wy])), (ms, .inl (tq.1, 1445, .inl s)), (su, .inl (tq.1, 6, .inl (upd f_ i_ (nI 0))))] := hD
        refine lv_iinc (v := (nI (i_ + 1))) (lv' := [(2, .int (nI (i_ + 1))), (0, .ref m0), (1, .int (nI y))]) hx hb dX8_balances_15 hl (k := 2) rfl (nI_add _ _) (by decide) rfl (fun ls hl => ?_)
        refine lv_goto (tgt := 2) hx hb dX8_balances_18 (by decide) ?_
        exact ih2 (i_ + 1) (upd f_ i_ (nI 0)) H locs ls (⟨by omega, fun a h => by by_cases e0 : a = i_; (rw [e0, pk_us]); (rw [pk_un e0]; exact hi2 a (by omega))⟩) (by omega) (hP.sub [0, 1, 2] rfl) (hD.sub [0, 1, 2] (by decide) rfl) hS (lv_sub hl [1, 2, 0] rfl)
  exact loop2 _ 0 f H locs ls (⟨by omega, fun a h => absurd h (Nat.not_lt_zero a)⟩) (Nat.lt_succ_self _) (hP.sub [0, 1, 2] rfl) (hD.sub [0, 1, 2] (by decide) rfl) hS (lv_sub hl [1, 2, 0] rfl)
theorem hdX8_isLow : yX8_isLow.cls = RX8 ∧ yX8_isLow.cls ≠ "java/lang/invoke/MethodHandle" ∧ yX8_isLow.cls ≠ "java/lang/invoke/VarHandle" ∧ (parseMethodDescriptor yX8_isLow.desc).map (fun d => d.parameters.length) = some 0 := by decide +kernel
set_option maxHeartbeats 4000000 in
set_option maxRecDepth 100000 in
theorem kX8_isLow (ln : Launch) (dg : va_G) (tq : ClassId × ClassId) (m0 ms mw mt su pt td wy : Nat) (xs xt xa : Int32) (f : Row) (v : Nat → Int) (hV : SV f v) (hr : ∀ a, a < 6 → -2147483648 ≤ v a ∧ v a < 2147483648) : MR ln yX8_isLow wsX8_isLow (rmm 0 0) dg tq [.ref m0] [(m0, .inr (8, [.ref ms, .ref mw, .int xs, .ref mt, .int xt, .int xa, .ref su, .ref pt, .ref td, .ref wy])), (su, .inl (tq.1, 6, .inl f))] (fun r => r = (bI (lowV v))) := by
  refine MR.enter cX8_isLow 3 .boolean (by decide) rfl rfl (Nat.le_of_ble_eq_true rfl) ?_
  intro pP eE sS mM aA bB mT cC QQ AA hA hAT hret H locs hP hS ls hl
  obtain ⟨hx, hb, hml, hown, hts, hK, hN⟩ := hAT
  have hown : sS.vm.findClass RX8 = some mM.cls := hown
  have hl : lv_has ls 3 [(0, .ref m0)] := hl
  have in8 : ∀ w ∈ u_ws RX8 TX8 10, w ∈ wsX8_isLow := (fun _ h9 => List.mem_cons_of_mem _ (List.mem_append_right _ h9))
  have f20 := hts (.fieldLink RX8 20 "OrphanChainModel" "sums" "[I") (List.mem_of_getElem? (i := 1) rfl)
  refine lv_iconst (v := (nI 0)) hx hb dX8_isLow_0 (by decide) ?_
  refine lv_istore_n (lv' := [(1, .int (nI 0)), (0, .ref m0)]) hx hb dX8_isLow_1 rfl hl (by decide) rfl (fun ls hl => ?_)
  have hl : lv_has ls 3 [(1, .int (bI false)), (0, .ref m0)] := by have el : (nI 0) = (bI false) := (rfl); rw [← el]; exact hl
  refine lv_iconst (v := (nI 0)) hx hb dX8_isLow_2 (by decide) ?_
  refine lv_istore_n (lv' := [(2, .int (nI 0)), (1, .int (bI false)), (0, .ref m0)]) hx hb dX8_isLow_3 rfl hl (by decide) rfl (fun ls hl => ?_)
  have loop4 : ∀ (fu : Nat) (i_ : Nat) (b_ : Bool) (H : Heap) (locs : List Loc) (ls : Array Slot), (i_ ≤ 6 ∧ lowV v = (b_ || !allF (fun a => decide (0 ≤ v a)) i_ (6 - i_))) → 6 - i_ < fu → va_P dg vwCl [(m0, .inr (8, [.ref ms, .ref mw, .int xs, .ref mt, .int xt, .int xa, .ref su, .ref pt, .ref td, .ref wy])), (su, .inl (tq.1, 6, .inl f))] H → va_S AA sS.heap H locs → lv_has ls 3 [(0, .ref m0), (1, .int (bI b_)), (2, .int (nI i_))] → W pP ln eE (rmm 0 0) sS mM aA bB mT cC H locs 0 0 QQ (F0 mM 4 ls []) := by
    intro fu
    induction fu with
    | zero => intro i_ b_ H locs ls _ hm; exact absurd hm (Nat.not_lt_zero _)
    | succ fu ih4 =>
      intro i_ b_ H locs ls hinv hm hP hS hl
      obtain ⟨hi1, hi2⟩ := hinv
      refine lv_iload_n hx hb dX8_isLow_4 rfl (lv_at hl 2 rfl) ?_
      refine lv_bipush (v := (nI 6)) hx hb dX8_isLow_5 (by decide) ?_
      refine r_icmp_ge (tgt := 35) hx hb (nI_tI (by omega)) (nI_tI (by omega)) dX8_isLow_7 (by decide) (fun c7 => ?_) (fun c7 => ?_)
      · skip
        refine lv_iload_n hx hb dX8_isLow_35 rfl (lv_at hl 1 rfl) ?_
        exact hret (bI b_) H locs _ ls (by rw [hi2, show 6 - i_ = 0 by omega]; simp [allF]) (narrow_bI _) hS dX8_isLow_36
      · skip
        refine lv_iload_n hx hb dX8_isLow_10 rfl (lv_at hl 1 rfl) ?_
        refine r_if_ne_b (tgt := 23) hx hb dX8_isLow_11 (by decide) (fun c11 => ?_) (fun c11 => ?_)
        · skip
          refine lv_iconst (v := (nI 1)) hx hb dX8_isLow_23 (by decide) ?_
          refine lv_goto (tgt := 28) hx hb dX8_isLow_24 (by decide) ?_
          refine lv_istore_n (lv' := [(1, .int (nI 1)), (0, .ref m0), (2, .int (nI i_))]) hx hb dX8_isLow_28 rfl hl (by decide) rfl (fun ls hl => ?_)
          have hl : lv_has ls 3 [(1, .int (bI true)), (0, .ref m0), (2, .int (nI i_))] := by have el : (nI 1) = (bI true) := (rfl); rw [← el]; exact hl
          refine lv_iinc (v := (nI (i_ + 1))) (lv' := [(2, .int (nI (i_ + 1))), (1, .int (bI true)), (0, .ref m0)]) hx hb dX8_isLow_29 hl (k := 2) rfl (nI_add _ _) (by decide) rfl (fun ls hl => ?_)
          refine lv_goto (tgt := 4) hx hb dX8_isLow_32 (by decide) ?_
          exact ih4 (i_ + 1) true H locs ls (⟨by omega, by rw [hi2, c11, Bool.true_or, Bool.true_or]⟩) (by omega) (hP.sub [0, 1] rfl) hS (lv_sub hl [2, 1, 0] rfl)
        · skip
          have hri := hr i_ (by omega)
          refine lv_aload_n hx hb dX8_isLow_14 rfl (lv_at hl 0 rfl) ?_
          refine va_get (D := dg) (ci := 8) (v := .ref su) (C := RX8) (T := TX8) (N := 10) hx hb hts in8 hown hK hP 0 rfl rfl 6 (by decide) f20 (fun _ h9 => h9) rfl dX8_isLow_15 ?_
          refine lv_iload_n hx hb dX8_isLow_18 rfl (lv_at hl 2 rfl) ?_
          refine r_iald_n hx hb hK hP 1 rfl (k := i_) (by omega) (by omega) dX8_isLow_19 ?_
          refine r_top (show (f i_) = (iI (v i_)) from hV i_ (by omega)) ?_
          refine r_if_ge (tgt := 27) hx hb (iI_toInt (by omega) (by omega)) dX8_isLow_20 (by decide) (fun c20 => ?_) (fun c20 => ?_)
          · skip
            refine lv_iconst (v := (nI 0)) hx hb dX8_isLow_27 (by decide) ?_
            refine lv_istore_n (lv' := [(1, .int (nI 0)), (0, .ref m0), (2, .int (nI i_))]) hx hb dX8_isLow_28 rfl hl (by decide) rfl (fun ls hl => ?_)
            have hl : lv_has ls 3 [(1, .int (bI false)), (0, .ref m0), (2, .int (nI i_))] := by have el : (nI 0) = (bI false) := (rfl); rw [← el]; exact hl
            refine lv_iinc (v := (nI (i_ + 1))) (lv' := [(2, .int (nI (i_ + 1))), (1, .int (bI false)), (0, .ref m0)]) hx hb dX8_isLow_29 hl (k := 2) rfl (nI_add _ _) (by decide) rfl (fun ls hl => ?_)
            refine lv_goto (tgt := 4) hx hb dX8_isLow_32 (by decide) ?_
            exact ih4 (i_ + 1) false H locs ls (⟨by omega, by rw [hi2, c11, show 6 - i_ = (6 - (i_ + 1)) + 1 by omega, allF, decide_eq_true (show 0 ≤ v i_ by omega), Bool.true_and]⟩) (by omega) (hP.sub [0, 1] rfl) hS (lv_sub hl [2, 1, 0] rfl)
          · skip
            refine lv_iconst (v := (nI 1)) hx hb dX8_isLow_23 (by decide) ?_
            refine lv_goto (tgt := 28) hx hb dX8_isLow_24 (by decide) ?_
            refine lv_istore_n (lv' := [(1, .int (nI 1)), (0, .ref m0), (2, .int (nI i_))]) hx hb dX8_isLow_28 rfl hl (by decide) rfl (fun ls hl => ?_)
            have hl : lv_has ls 3 [(1, .int (bI true)), (0, .ref m0), (2, .int (nI i_))] := by have el : (nI 1) = (bI true) := (rfl); rw [← el]; exact hl
            refine lv_iinc (v := (nI (i_ + 1))) (lv' := [(2, .int (nI (i_ + 1))), (1, .int (bI true)), (0, .ref m0)]) hx hb dX8_isLow_29 hl (k := 2) rfl (nI_add _ _) (by decide) rfl (fun ls hl => ?_)
            refine lv_goto (tgt := 4) hx hb dX8_isLow_32 (by decide) ?_
            exact ih4 (i_ + 1) true H locs ls (⟨by omega, by rw [hi2, c11, show 6 - i_ = (6 - (i_ + 1)) + 1 by omega, allF, decide_eq_false (show ¬ 0 ≤ v i_ by omega)]; rfl⟩) (by omega) (hP.sub [0, 1] rfl) hS (lv_sub hl [2, 1, 0] rfl)
  exact loop4 _ 0 false H locs ls (⟨by omega, by unfold lowV; rw [Bool.false_or]⟩) (Nat.lt_succ_self _) (hP.sub [0, 1] rfl) hS (lv_sub hl [2, 1, 0] rfl)
theorem hdX8_fitting : yX8_fitting.cls = RX8 ∧ yX8_fitting.cls ≠ "java/lang/invoke/MethodHandle" ∧ yX8_fitting.cls ≠ "java/lang/invoke/VarHandle" ∧ (parseMethodDescriptor yX8_fitting.desc).map (fun d => d.parameters.length) = some 1 := by decide +kernel
set_option maxHeartbeats 4000000 in
set_option maxRecDepth 100000 in
theorem kX8_fitting (ln : Launch) (dg : va_G) (tq : ClassId × ClassId) (m0 ms mw mt su pt td wy : Nat) (xs xt xa : Int32) (s : Row) (e p : Nat) (he : e < 60) (hp : 0 < e → me s e 0 = nI p) (hp2 : 0 < e → p < 60) : MR ln yX8_fitting wsX8_fitting (rmm 1 22) dg tq [.ref m0, .int (nI e)] [(m0, .inr (8, [.ref ms, .ref mw, .int xs, .ref mt, .int xt, .int xa, .ref su, .ref pt, .ref td, .ref wy])), (ms, .inl (tq.1, 1445, .inl s))] (fun r => r = (mfit s e p)) := by
  refine MR.enter cX8_fitting 2 .int (by decide) rfl rfl (Nat.le_of_ble_eq_true rfl) ?_
  intro pP eE sS mM aA bB mT cC QQ AA hA hAT hret H locs hP hS ls hl
  obtain ⟨hx, hb, hml, hown, hts, hK, hN⟩ := hAT
  have hown : sS.vm.findClass RX8 = some mM.cls := hown
  have hl : lv_has ls 2 [(0, .ref m0), (1, .int (nI e))] := hl
  refine lv_iload_n hx hb dX8_fitting_0 rfl (lv_at hl 1 rfl) ?_
  refine r_if_ne (tgt := 6) hx hb (nI_tI (by omega)) dX8_fitting_1 (by decide) (fun c1 => ?_) (fun c1 => ?_)
  · skip
    have hp3 := hp2 (by omega)
    refine lv_bipush (v := (nI 31)) hx hb dX8_fitting_6 (by decide) ?_
    refine lv_aload_n hx hb dX8_fitting_8 rfl (lv_at hl 0 rfl) ?_
    refine lv_aload_n hx hb dX8_fitting_9 rfl (lv_at hl 0 rfl) ?_
    refine lv_iload_n hx hb dX8_fitting_10 rfl (lv_at hl 1 rfl) ?_
    refine lv_iconst (v := (nI 0)) hx hb dX8_fitting_11 (by decide) ?_
    refine call_x (va_runV (As := [.int (nI e), .int (nI 0)]) (rest := [.ref m0, .int (nI 31)]) ⟨hx, hb, hml, hown, hts⟩ (kX8_en ln dg tq (m0 := m0) (ms := ms) (mw := mw) (mt := mt) (su := su) (pt := pt) (td := td) (wy := wy) (xs := xs) (xt := xt) (xa := xa) (s := s) (e := e) (f := 0) (he := (by omega)) (hf := (by omega)) H.size) (cwV 2 hts gX8_fitting_X8_en rfl rfl rfl hdX8_en ⟨Nat.le_of_ble_eq_true rfl, Nat.le_of_ble_eq_true rfl⟩) (preVR hK hN hP [0, 1] rfl 0 rfl rfl [.int (nI e), .int (nI 0)]) rfl rfl hl.1 rfl (lv_room (Nat.le_of_ble_eq_true rfl)) dX8_fitting_12 ⟨Nat.le_refl _, Nat.le_refl _⟩) hP hS hA (fun H locs hP hS => ?_)
    refine r_top (show (s (5 + 7 * e + 0)) = (nI p) from hp (by omega)) ?_
    refine lv_iconst (v := (nI 5)) hx hb dX8_fitting_15 (by decide) ?_
    refine call_x (va_runV (As := [.int (nI p), .int (nI 5)]) (rest := [.int (nI 31)]) ⟨hx, hb, hml, hown, hts⟩ (kX8_en ln dg tq (m0 := m0) (ms := ms) (mw := mw) (mt := mt) (su := su) (pt := pt) (td := td) (wy := wy) (xs := xs) (xt := xt) (xa := xa) (s := s) (e := p) (f := 5) (he := (by omega)) (hf := (by omega)) H.size) (cwV 2 hts gX8_fitting_X8_en rfl rfl rfl hdX8_en ⟨Nat.le_of_ble_eq_true rfl, Nat.le_of_ble_eq_true rfl⟩) (preVR hK hN hP [0, 1] rfl 0 rfl rfl [.int (nI p), .int (nI 5)]) rfl rfl hl.1 rfl (lv_room (Nat.le_of_ble_eq_true rfl)) dX8_fitting_16 ⟨Nat.le_refl _, Nat.le_refl _⟩) hP hS hA (fun H locs hP hS => ?_)
    refine lv_imul hx hb dX8_fitting_19 ?_
    refine lv_bipush (v := (nI 7)) hx hb dX8_fitting_20 (by decide) ?_
    refine lv_aload_n hx hb dX8_fitting_22 rfl (lv_at hl 0 rfl) ?_
    refine lv_iload_n hx hb dX8_fitting_23 rfl (lv_at hl 1 rfl) ?_
    refine lv_iconst (v := (nI 1)) hx hb dX8_fitting_24 (by decide) ?_
    refine call_x (va_runV (As := [.int (nI e), .int (nI 1)]) (rest := [.int (nI 7), .int ((nI 31) * (s (5 + 7 * p + 5)))]) ⟨hx, hb, hml, hown, hts⟩ (kX8_en ln dg tq (m0 := m0) (ms := ms) (mw := mw) (mt := mt) (su := su) (pt := pt) (td := td) (wy := wy) (xs := xs) (xt := xt) (xa := xa) (s := s) (e := e) (f := 1) (he := (by omega)) (hf := (by omega)) H.size) (cwV 2 hts gX8_fitting_X8_en rfl rfl rfl hdX8_en ⟨Nat.le_of_ble_eq_true rfl, Nat.le_of_ble_eq_true rfl⟩) (preVR hK hN hP [0, 1] rfl 0 rfl rfl [.int (nI e), .int (nI 1)]) rfl rfl hl.1 rfl (lv_room (Nat.le_of_ble_eq_true rfl)) dX8_fitting_25 ⟨Nat.le_refl _, Nat.le_refl _⟩) hP hS hA (fun H locs hP hS => ?_)
    refine lv_imul hx hb dX8_fitting_28 ?_
    refine lv_iadd hx hb dX8_fitting_29 ?_
    refine lv_bipush (v := (nI 11)) hx hb dX8_fitting_30 (by decide) ?_
    refine lv_aload_n hx hb dX8_fitting_32 rfl (lv_at hl 0 rfl) ?_
    refine lv_iload_n hx hb dX8_fitting_33 rfl (lv_at hl 1 rfl) ?_
    refine lv_iconst (v := (nI 2)) hx hb dX8_fitting_34 (by decide) ?_
    refine call_x (va_runV (As := [.int (nI e), .int (nI 2)]) (rest := [.int (nI 11), .int (((nI 31) * (s (5 + 7 * p + 5))) + ((nI 7) * (s (5 + 7 * e + 1))))]) ⟨hx, hb, hml, hown, hts⟩ (kX8_en ln dg tq (m0 := m0) (ms := ms) (mw := mw) (mt := mt) (su := su) (pt := pt) (td := td) (wy := wy) (xs := xs) (xt := xt) (xa := xa) (s := s) (e := e) (f := 2) (he := (by omega)) (hf := (by omega)) H.size) (cwV 2 hts gX8_fitting_X8_en rfl rfl rfl hdX8_en ⟨Nat.le_of_ble_eq_true rfl, Nat.le_of_ble_eq_true rfl⟩) (preVR hK hN hP [0, 1] rfl 0 rfl rfl [.int (nI e), .int (nI 2)]) rfl rfl hl.1 rfl (lv_room (Nat.le_of_ble_eq_true rfl)) dX8_fitting_35 ⟨Nat.le_refl _, Nat.le_refl _⟩) hP hS hA (fun H locs hP hS => ?_)
    refine lv_imul hx hb dX8_fitting_38 ?_
    refine lv_iadd hx hb dX8_fitting_39 ?_
    refine lv_bipush (v := (nI 13)) hx hb dX8_fitting_40 (by decide) ?_
    refine lv_aload_n hx hb dX8_fitting_42 rfl (lv_at hl 0 rfl) ?_
    refine lv_iload_n hx hb dX8_fitting_43 rfl (lv_at hl 1 rfl) ?_
    refine lv_iconst (v := (nI 3)) hx hb dX8_fitting_44 (by decide) ?_
    refine call_x (va_runV (As := [.int (nI e), .int (nI 3)]) (rest := [.int (nI 13), .int ((((nI 31) * (s (5 + 7 * p + 5))) + ((nI 7) * (s (5 + 7 * e + 1)))) + ((nI 11) * (s (5 + 7 * e + 2))))]) ⟨hx, hb, hml, hown, hts⟩ (kX8_en ln dg tq (m0 := m0) (ms := ms) (mw := mw) (mt := mt) (su := su) (pt := pt) (td := td) (wy := wy) (xs := xs) (xt := xt) (xa := xa) (s := s) (e := e) (f := 3) (he := (by omega)) (hf := (by omega)) H.size) (cwV 2 hts gX8_fitting_X8_en rfl rfl rfl hdX8_en ⟨Nat.le_of_ble_eq_true rfl, Nat.le_of_ble_eq_true rfl⟩) (preVR hK hN hP [0, 1] rfl 0 rfl rfl [.int (nI e), .int (nI 3)]) rfl rfl hl.1 rfl (lv_room (Nat.le_of_ble_eq_true rfl)) dX8_fitting_45 ⟨Nat.le_refl _, Nat.le_refl _⟩) hP hS hA (fun H locs hP hS => ?_)
    refine lv_imul hx hb dX8_fitting_48 ?_
    refine lv_iadd hx hb dX8_fitting_49 ?_
    refine lv_bipush (v := (nI 17)) hx hb dX8_fitting_50 (by decide) ?_
    refine lv_aload_n hx hb dX8_fitting_52 rfl (lv_at hl 0 rfl) ?_
    refine lv_iload_n hx hb dX8_fitting_53 rfl (lv_at hl 1 rfl) ?_
    refine lv_iconst (v := (nI 4)) hx hb dX8_fitting_54 (by decide) ?_
    refine call_x (va_runV (As := [.int (nI e), .int (nI 4)]) (rest := [.int (nI 17), .int (((((nI 31) * (s (5 + 7 * p + 5))) + ((nI 7) * (s (5 + 7 * e + 1)))) + ((nI 11) * (s (5 + 7 * e + 2)))) + ((nI 13) * (s (5 + 7 * e + 3))))]) ⟨hx, hb, hml, hown, hts⟩ (kX8_en ln dg tq (m0 := m0) (ms := ms) (mw := mw) (mt := mt) (su := su) (pt := pt) (td := td) (wy := wy) (xs := xs) (xt := xt) (xa := xa) (s := s) (e := e) (f := 4) (he := (by omega)) (hf := (by omega)) H.size) (cwV 2 hts gX8_fitting_X8_en rfl rfl rfl hdX8_en ⟨Nat.le_of_ble_eq_true rfl, Nat.le_of_ble_eq_true rfl⟩) (preVR hK hN hP [0, 1] rfl 0 rfl rfl [.int (nI e), .int (nI 4)]) rfl rfl hl.1 rfl (lv_room (Nat.le_of_ble_eq_true rfl)) dX8_fitting_55 ⟨Nat.le_refl _, Nat.le_refl _⟩) hP hS hA (fun H locs hP hS => ?_)
    refine lv_imul hx hb dX8_fitting_58 ?_
    refine lv_iadd hx hb dX8_fitting_59 ?_
    refine lv_bipush (v := (nI 19)) hx hb dX8_fitting_60 (by decide) ?_
    refine lv_iload_n hx hb dX8_fitting_62 rfl (lv_at hl 1 rfl) ?_
    refine r_imul_n hx hb dX8_fitting_63 ?_
    refine lv_iadd hx hb dX8_fitting_64 ?_
    refine lv_sipush (v := (nI 9973)) hx hb dX8_fitting_65 (by decide) ?_
    refine lv_irem hx hb dX8_fitting_68 (by decide) ?_
    exact hret ((((((((nI 31) * (s (5 + 7 * p + 5))) + ((nI 7) * (s (5 + 7 * e + 1)))) + ((nI 11) * (s (5 + 7 * e + 2)))) + ((nI 13) * (s (5 + 7 * e + 3)))) + ((nI 17) * (s (5 + 7 * e + 4)))) + (nI (19 * e))) - (((((((nI 31) * (s (5 + 7 * p + 5))) + ((nI 7) * (s (5 + 7 * e + 1)))) + ((nI 11) * (s (5 + 7 * e + 2)))) + ((nI 13) * (s (5 + 7 * e + 3)))) + ((nI 17) * (s (5 + 7 * e + 4)))) + (nI (19 * e))) / (nI 9973) * (nI 9973)) H locs _ ls (by rw [mfit, if_neg (by omega)]; rfl) rfl hS dX8_fitting_69
  · skip
    refine lv_iconst (v := (nI 1)) hx hb dX8_fitting_4 (by decide) ?_
    exact hret (nI 1) H locs _ ls (by rw [mfit, if_pos (by omega)]; rfl) rfl hS dX8_fitting_5
theorem hdX8_isWaiting : yX8_isWaiting.cls = RX8 ∧ yX8_isWaiting.cls ≠ "java/lang/invoke/MethodHandle" ∧ yX8_isWaiting.cls ≠ "java/lang/invoke/VarHandle" ∧ (parseMethodDescriptor yX8_isWaiting.desc).map (fun d => d.parameters.length) = some 1 := by decide +kernel
set_option maxHeartbeats 4000000 in
set_option maxRecDepth 100000 in
theorem kX8_isWaiting (ln : Launch) (dg : va_G) (tq : ClassId × ClassId) (m0 ms mw mt su pt td wy : Nat) (xs xt xa : Int32) (s : Row) (b : Nat) (hb0 : b < 10) : MR ln yX8_isWaiting wsX8_isWaiting (rmm 1 22) dg tq [.ref m0, .int (nI b)] [(m0, .inr (8, [.ref ms, .ref mw, .int xs, .ref mt, .int xt, .int xa, .ref su, .ref pt, .ref td, .ref wy])), (ms, .inl (tq.1, 1445, .inl s))] (fun r => r = (bI (waitB s b))) := by
  refine MR.enter cX8_isWaiting 2 .boolean (by decide) rfl rfl (Nat.le_of_ble_eq_true rfl) ?_
  intro pP eE sS mM aA bB mT cC QQ AA hA hAT hret H locs hP hS ls hl
  obtain ⟨hx, hb, hml, hown, hts, hK, hN⟩ := hAT
  have hown : sS.vm.findClass RX8 = some mM.cls := hown
  have hl : lv_has ls 2 [(0, .ref m0), (1, .int (nI b))] := hl
  refine lv_aload_n hx hb dX8_isWaiting_0 rfl (lv_at hl 0 rfl) ?_
  refine lv_iload_n hx hb dX8_isWaiting_1 rfl (lv_at hl 1 rfl) ?_
  refine lv_iconst (v := (nI 3)) hx hb dX8_isWaiting_2 (by decide) ?_
  refine call_x (va_runV (As := [.int (nI b), .int (nI 3)]) (rest := []) ⟨hx, hb, hml, hown, hts⟩ (kX8_br ln dg tq (m0 := m0) (ms := ms) (mw := mw) (mt := mt) (su := su) (pt := pt) (td := td) (wy := wy) (xs := xs) (xt := xt) (xa := xa) (s := s) (b := b) (f := 3) (hb0 := (by omega)) (hf := (by omega)) H.size) (cwV 2 hts gX8_isWaiting_X8_br rfl rfl rfl hdX8_br ⟨Nat.le_of_ble_eq_true rfl, Nat.le_of_ble_eq_true rfl⟩) (preVR hK hN hP [0, 1] rfl 0 rfl rfl [.int (nI b), .int (nI 3)]) rfl rfl hl.1 rfl (lv_room (Nat.le_of_ble_eq_true rfl)) dX8_isWaiting_3 ⟨Nat.le_refl _, Nat.le_refl _⟩) hP hS hA (fun H locs hP hS => ?_)
  refine r_if_ne (tgt := 13) hx hb rfl dX8_isWaiting_6 (by decide) (fun c6 => ?_) (fun c6 => ?_)
  · skip
    refine lv_iconst (v := (nI 0)) hx hb dX8_isWaiting_13 (by decide) ?_
    exact hret (nI 0) H locs _ ls (by unfold waitB; first | exact (bI_pos (i32_eq (by assumption))).symm | exact (bI_neg (fun z => c6 (by rw [show s (425 + 4 * b + 3) = 0 from z]; rfl))).symm) rfl hS dX8_isWaiting_14
  · skip
    refine lv_iconst (v := (nI 1)) hx hb dX8_isWaiting_9 (by decide) ?_
    refine lv_goto (tgt := 14) hx hb dX8_isWaiting_10 (by decide) ?_
    exact hret (nI 1) H locs _ ls (by unfold waitB; first | exact (bI_pos (i32_eq (by assumption))).symm | exact (bI_neg (fun z => c6 (by rw [show s (425 + 4 * b + 3) = 0 from z]; rfl))).symm) rfl hS dX8_isWaiting_14
set_option maxHeartbeats 4000000 in
set_option maxRecDepth 100000 in
theorem kX8_isWaiting__p (ln : Launch) (dg : va_G) (tq : ClassId × ClassId) (m0 ms mw mt su pt td wy : Nat) (xs xt xa : Int32) (x s : Row) (b : Nat) (hb0 : b < 10) (hst : x (425 + 4 * b + 3) = mb s b 3) : MR ln yX8_isWaiting wsX8_isWaiting (rmm 1 22) dg tq [.ref m0, .int (nI b)] [(m0, .inr (8, [.ref ms, .ref mw, .int xs, .ref mt, .int xt, .int xa, .ref su, .ref pt, .ref td, .ref wy])), (ms, .inl (tq.1, 1445, .inl x))] (fun r => r = (bI (waitB s b))) := by
  refine MR.enter cX8_isWaiting 2 .boolean (by decide) rfl rfl (Nat.le_of_ble_eq_true rfl) ?_
  intro pP eE sS mM aA bB mT cC QQ AA hA hAT hret H locs hP hS ls hl
  obtain ⟨hx, hb, hml, hown, hts, hK, hN⟩ := hAT
  have hown : sS.vm.findClass RX8 = some mM.cls := hown
  have hl : lv_has ls 2 [(0, .ref m0), (1, .int (nI b))] := hl
  refine lv_aload_n hx hb dX8_isWaiting_0 rfl (lv_at hl 0 rfl) ?_
  refine lv_iload_n hx hb dX8_isWaiting_1 rfl (lv_at hl 1 rfl) ?_
  refine lv_iconst (v := (nI 3)) hx hb dX8_isWaiting_2 (by decide) ?_
  refine call_x (va_runV (As := [.int (nI b), .int (nI 3)]) (rest := []) ⟨hx, hb, hml, hown, hts⟩ (kX8_br ln dg tq (m0 := m0) (ms := ms) (mw := mw) (mt := mt) (su := su) (pt := pt) (td := td) (wy := wy) (xs := xs) (xt := xt) (xa := xa) (s := x) (b := b) (f := 3) (hb0 := (by omega)) (hf := (by omega)) H.size) (cwV 2 hts gX8_isWaiting_X8_br rfl rfl rfl hdX8_br ⟨Nat.le_of_ble_eq_true rfl, Nat.le_of_ble_eq_true rfl⟩) (preVR hK hN hP [0, 1] rfl 0 rfl rfl [.int (nI b), .int (nI 3)]) rfl rfl hl.1 rfl (lv_room (Nat.le_of_ble_eq_true rfl)) dX8_isWaiting_3 ⟨Nat.le_refl _, Nat.le_refl _⟩) hP hS hA (fun H locs hP hS => ?_)
  refine r_top (show (x (425 + 4 * b + 3)) = (mb s b 3) from hst) ?_
  refine r_if_ne (tgt := 13) hx hb rfl dX8_isWaiting_6 (by decide) (fun c6 => ?_) (fun c6 => ?_)
  · skip
    refine lv_iconst (v := (nI 0)) hx hb dX8_isWaiting_13 (by decide) ?_
    exact hret (nI 0) H locs _ ls (by unfold waitB; first | exact (bI_pos (i32_eq (by assumption))).symm | exact (bI_neg (fun z => c6 (by rw [z]; rfl))).symm) rfl hS dX8_isWaiting_14
  · skip
    refine lv_iconst (v := (nI 1)) hx hb dX8_isWaiting_9 (by decide) ?_
    refine lv_goto (tgt := 14) hx hb dX8_isWaiting_10 (by decide) ?_
    exact hret (nI 1) H locs _ ls (by unfold waitB; first | exact (bI_pos (i32_eq (by assumption))).symm | exact (bI_neg (fun z => c6 (by rw [z]; rfl))).symm) rfl hS dX8_isWaiting_14
theorem hdX8_isLoud : yX8_isLoud.cls = RX8 ∧ yX8_isLoud.cls ≠ "java/lang/invoke/MethodHandle" ∧ yX8_isLoud.cls ≠ "java/lang/invoke/VarHandle" ∧ (parseMethodDescriptor yX8_isLoud.desc).map (fun d => d.parameters.length) = some 1 := by decide +kernel
set_option maxHeartbeats 4000000 in
set_option maxRecDepth 100000 in
theorem kX8_isLoud (ln : Launch) (dg : va_G) (tq : ClassId × ClassId) (m0 ms mw mt su pt td wy : Nat) (xs xt xa : Int32) (s : Row) (b : Nat) (hb0 : b < 10) : MR ln yX8_isLoud wsX8_isLoud (rmm 2 43) dg tq [.ref m0, .int (nI b)] [(m0, .inr (8, [.ref ms, .ref mw, .int xs, .ref mt, .int xt, .int xa, .ref su, .ref pt, .ref td, .ref wy])), (ms, .inl (tq.1, 1445, .inl s))] (fun r => r = (bI (loudB s b))) := by
  refine MR.enter cX8_isLoud 2 .boolean (by decide) rfl rfl (Nat.le_of_ble_eq_true rfl) ?_
  intro pP eE sS mM aA bB mT cC QQ AA hA hAT hret H locs hP hS ls hl
  obtain ⟨hx, hb, hml, hown, hts, hK, hN⟩ := hAT
  have hown : sS.vm.findClass RX8 = some mM.cls := hown
  have hl : lv_has ls 2 [(0, .ref m0), (1, .int (nI b))] := hl
  have in8 : ∀ w ∈ u_ws RX8 TX8 10, w ∈ wsX8_isLoud := (fun _ h9 => List.mem_cons_of_mem _ (List.mem_append_right _ h9))
  have f7 := hts (.fieldLink RX8 7 "OrphanChainModel" "s" "[I") (List.mem_of_getElem? (i := 1) rfl)
  refine lv_aload_n hx hb dX8_isLoud_0 rfl (lv_at hl 0 rfl) ?_
  refine lv_iload_n hx hb dX8_isLoud_1 rfl (lv_at hl 1 rfl) ?_
  refine call_x (va_runV (As := [.int (nI b)]) (rest := []) ⟨hx, hb, hml, hown, hts⟩ (kX8_isWaiting ln dg tq (m0 := m0) (ms := ms) (mw := mw) (mt := mt) (su := su) (pt := pt) (td := td) (wy := wy) (xs := xs) (xt := xt) (xa := xa) (s := s) (b := b) (hb0 := (by omega)) H.size) (cwV 1 hts gX8_isLoud_X8_isWaiting rfl rfl rfl hdX8_isWaiting ⟨Nat.le_of_ble_eq_true rfl, Nat.le_of_ble_eq_true rfl⟩) (preVR hK hN hP [0, 1] rfl 0 rfl rfl [.int (nI b)]) rfl rfl hl.1 rfl (lv_room (Nat.le_of_ble_eq_true rfl)) dX8_isLoud_2 ⟨Nat.le_refl _, Nat.le_refl _⟩) hP hS hA (fun H locs hP hS => ?_)
  refine r_if_eq_b (tgt := 27) hx hb dX8_isLoud_5 (by decide) (fun c5 => ?_) (fun c5 => ?_)
  · skip
    refine lv_iconst (v := (nI 0)) hx hb dX8_isLoud_27 (by decide) ?_
    exact hret (nI 0) H locs _ ls (by unfold loudB; rw [c5]; first | rfl | (rw [Bool.true_and]; first | exact (bI_pos (by omega)).symm | exact (bI_neg (by omega)).symm)) rfl hS dX8_isLoud_28
  · skip
    refine lv_aload_n hx hb dX8_isLoud_8 rfl (lv_at hl 0 rfl) ?_
    refine lv_iload_n hx hb dX8_isLoud_9 rfl (lv_at hl 1 rfl) ?_
    refine lv_iconst (v := (nI 2)) hx hb dX8_isLoud_10 (by decide) ?_
    refine call_x (va_runV (As := [.int (nI b), .int (nI 2)]) (rest := []) ⟨hx, hb, hml, hown, hts⟩ (kX8_br ln dg tq (m0 := m0) (ms := ms) (mw := mw) (mt := mt) (su := su) (pt := pt) (td := td) (wy := wy) (xs := xs) (xt := xt) (xa := xa) (s := s) (b := b) (f := 2) (hb0 := (by omega)) (hf := (by omega)) H.size) (cwV 2 hts gX8_isLoud_X8_br rfl rfl rfl hdX8_br ⟨Nat.le_of_ble_eq_true rfl, Nat.le_of_ble_eq_true rfl⟩) (preVR hK hN hP [0, 1] rfl 0 rfl rfl [.int (nI b), .int (nI 2)]) rfl rfl hl.1 rfl (lv_room (Nat.le_of_ble_eq_true rfl)) dX8_isLoud_11 ⟨Nat.le_refl _, Nat.le_refl _⟩) hP hS hA (fun H locs hP hS => ?_)
    refine r_top (show (s (425 + 4 * b + 2)) = (mb s b 2) from rfl) ?_
    refine lv_aload_n hx hb dX8_isLoud_14 rfl (lv_at hl 0 rfl) ?_
    refine va_get (D := dg) (ci := 8) (v := .ref ms) (C := RX8) (T := TX8) (N := 10) hx hb hts in8 hown hK hP 0 rfl rfl 0 (by decide) f7 (fun _ h9 => h9) rfl dX8_isLoud_15 ?_
    refine lv_iconst (v := (nI 3)) hx hb dX8_isLoud_18 (by decide) ?_
    refine r_iald_n hx hb hK hP 1 rfl (k := 3) (by omega) (by omega) dX8_isLoud_19 ?_
    refine r_icmp_lt (tgt := 27) hx hb rfl rfl dX8_isLoud_20 (by decide) (fun c20 => ?_) (fun c20 => ?_)
    · skip
      refine lv_iconst (v := (nI 0)) hx hb dX8_isLoud_27 (by decide) ?_
      exact hret (nI 0) H locs _ ls (by unfold loudB; rw [c5]; first | rfl | (rw [Bool.true_and]; first | exact (bI_pos (by omega)).symm | exact (bI_neg (by omega)).symm)) rfl hS dX8_isLoud_28
    · skip
      refine lv_iconst (v := (nI 1)) hx hb dX8_isLoud_23 (by decide) ?_
      refine lv_goto (tgt := 28) hx hb dX8_isLoud_24 (by decide) ?_
      exact hret (nI 1) H locs _ ls (by unfold loudB; rw [c5]; first | rfl | (rw [Bool.true_and]; first | exact (bI_pos (by omega)).symm | exact (bI_neg (by omega)).symm)) rfl hS dX8_isLoud_28
theorem hdX8_louds : yX8_louds.cls = RX8 ∧ yX8_louds.cls ≠ "java/lang/invoke/MethodHandle" ∧ yX8_louds.cls ≠ "java/lang/invoke/VarHandle" ∧ (parseMethodDescriptor yX8_louds.desc).map (fun d => d.parameters.length) = some 0 := by decide +kernel
set_option maxHeartbeats 4000000 in
set_option maxRecDepth 100000 in
theorem kX8_louds (ln : Launch) (dg : va_G) (tq : ClassId × ClassId) (m0 ms mw mt su pt td wy : Nat) (xs xt xa : Int32) (s : Row) (hW : WF s) : MR ln yX8_louds wsX8_louds (rmm 3 64) dg tq [.ref m0] [(m0, .inr (8, [.ref ms, .ref mw, .int xs, .ref mt, .int xt, .int xa, .ref su, .ref pt, .ref td, .ref wy])), (ms, .inl (tq.1, 1445, .inl s))] (fun r => r = (nI (cntF (loudB s) (nB s)))) := by
  refine MR.enter cX8_louds 3 .int (by decide) rfl rfl (Nat.le_of_ble_eq_true rfl) ?_
  intro pP eE sS mM aA bB mT cC QQ AA hA hAT hret H locs hP hS ls hl
  obtain ⟨hx, hb, hml, hown, hts, hK, hN⟩ := hAT
  have hown : sS.vm.findClass RX8 = some mM.cls := hown
  have hl : lv_has ls 3 [(0, .ref m0)] := hl
  have in8 : ∀ w ∈ u_ws RX8 TX8 10, w ∈ wsX8_louds := (fun _ h9 => List.mem_cons_of_mem _ (List.mem_append_right _ h9))
  have f7 := hts (.fieldLink RX8 7 "OrphanChainModel" "s" "[I") (List.mem_of_getElem? (i := 1) rfl)
  have hn60 := hW.n60
  have hb10 := hW.b10
  have hs8 := hW.s8
  have hhn := hW.hn
  refine lv_iconst (v := (nI 0)) hx hb dX8_louds_0 (by decide) ?_
  refine lv_istore_n (lv' := [(1, .int (nI 0)), (0, .ref m0)]) hx hb dX8_louds_1 rfl hl (by decide) rfl (fun ls hl => ?_)
  refine lv_iconst (v := (nI 0)) hx hb dX8_louds_2 (by decide) ?_
  refine lv_istore_n (lv' := [(2, .int (nI 0)), (1, .int (nI 0)), (0, .ref m0)]) hx hb dX8_louds_3 rfl hl (by decide) rfl (fun ls hl => ?_)
  have loop4 : ∀ (fu : Nat) (k_ : Nat) (i_ : Nat) (H : Heap) (locs : List Loc) (ls : Array Slot), (k_ = cntF (loudB s) i_ ∧ i_ ≤ nB s) → nB s - i_ < fu → va_P dg vwCl [(m0, .inr (8, [.ref ms, .ref mw, .int xs, .ref mt, .int xt, .int xa, .ref su, .ref pt, .ref td, .ref wy])), (ms, .inl (tq.1, 1445, .inl s))] H → va_S AA sS.heap H locs → lv_has ls 3 [(0, .ref m0), (1, .int (nI k_)), (2, .int (nI i_))] → W pP ln eE (rmm 3 64) sS mM aA bB mT cC H locs 0 0 QQ (F0 mM 4 ls []) := by
    intro fu
    induction fu with
    | zero => intro k_ i_ H locs ls _ hm; exact absurd hm (Nat.not_lt_zero _)
    | succ fu ih4 =>
      intro k_ i_ H locs ls hinv hm hP hS hl
      obtain ⟨hi1, hi2⟩ := hinv
      refine lv_iload_n hx hb dX8_louds_4 rfl (lv_at hl 2 rfl) ?_
      refine lv_aload_n hx hb dX8_louds_5 rfl (lv_at hl 0 rfl) ?_
      refine va_get (D := dg) (ci := 8) (v := .ref ms) (C := RX8) (T := TX8) (N := 10) hx hb hts in8 hown hK hP 0 rfl rfl 0 (by decide) f7 (fun _ h9 => h9) rfl dX8_louds_6 ?_
      refine lv_iconst (v := (nI 2)) hx hb dX8_louds_9 (by decide) ?_
      refine r_iald_n hx hb hK hP 1 rfl (k := 2) (by omega) (by omega) dX8_louds_10 ?_
      refine r_top (show (s 2) = (nI (nB s)) from (hW.b)) ?_
      refine r_icmp_ge (tgt := 36) hx hb (nI_tI (by omega)) (nI_tI (by omega)) dX8_louds_11 (by decide) (fun c11 => ?_) (fun c11 => ?_)
      · skip
        refine lv_iload_n hx hb dX8_louds_36 rfl (lv_at hl 1 rfl) ?_
        exact hret (nI k_) H locs _ ls (by rw [hi1, show i_ = nB s by omega]) rfl hS dX8_louds_37
      · skip
        refine lv_iload_n hx hb dX8_louds_14 rfl (lv_at hl 1 rfl) ?_
        refine lv_aload_n hx hb dX8_louds_15 rfl (lv_at hl 0 rfl) ?_
        refine lv_iload_n hx hb dX8_louds_16 rfl (lv_at hl 2 rfl) ?_
        refine call_x (va_runV (As := [.int (nI i_)]) (rest := [.int (nI k_)]) ⟨hx, hb, hml, hown, hts⟩ (kX8_isLoud ln dg tq (m0 := m0) (ms := ms) (mw := mw) (mt := mt) (su := su) (pt := pt) (td := td) (wy := wy) (xs := xs) (xt := xt) (xa := xa) (s := s) (b := i_) (hb0 := (by omega)) H.size) (cwV 1 hts gX8_louds_X8_isLoud rfl rfl rfl hdX8_isLoud ⟨Nat.le_of_ble_eq_true rfl, Nat.le_of_ble_eq_true rfl⟩) (preVR hK hN hP [0, 1] rfl 0 rfl rfl [.int (nI i_)]) rfl rfl hl.1 rfl (lv_room (Nat.le_of_ble_eq_true rfl)) dX8_louds_17 ⟨Nat.le_refl _, Nat.le_refl _⟩) hP hS hA (fun H locs hP hS => ?_)
        refine r_if_eq_b (tgt := 27) hx hb dX8_louds_20 (by decide) (fun c20 => ?_) (fun c20 => ?_)
        · skip
          refine lv_iconst (v := (nI 0)) hx hb dX8_louds_27 (by decide) ?_
          refine r_iadd_n hx hb dX8_louds_28 ?_
          refine lv_istore_n (lv' := [(1, .int (nI (k_ + 0))), (0, .ref m0), (2, .int (nI i_))]) hx hb dX8_louds_29 rfl hl (by decide) rfl (fun ls hl => ?_)
          refine lv_iinc (v := (nI (i_ + 1))) (lv' := [(2, .int (nI (i_ + 1))), (1, .int (nI (k_ + 0))), (0, .ref m0)]) hx hb dX8_louds_30 hl (k := 2) rfl (nI_add _ _) (by decide) rfl (fun ls hl => ?_)
          refine lv_goto (tgt := 4) hx hb dX8_louds_33 (by decide) ?_
          exact ih4 (k_ + 0) (i_ + 1) H locs ls (⟨by simp [cntF, c20, hi1], by omega⟩) (by omega) (hP.sub [0, 1] rfl) hS (lv_sub hl [2, 1, 0] rfl)
        · skip
          refine lv_iconst (v := (nI 1)) hx hb dX8_louds_23 (by decide) ?_
          refine lv_goto (tgt := 28) hx hb dX8_louds_24 (by decide) ?_
          refine r_iadd_n hx hb dX8_louds_28 ?_
          refine lv_istore_n (lv' := [(1, .int (nI (k_ + 1))), (0, .ref m0), (2, .int (nI i_))]) hx hb dX8_louds_29 rfl hl (by decide) rfl (fun ls hl => ?_)
          refine lv_iinc (v := (nI (i_ + 1))) (lv' := [(2, .int (nI (i_ + 1))), (1, .int (nI (k_ + 1))), (0, .ref m0)]) hx hb dX8_louds_30 hl (k := 2) rfl (nI_add _ _) (by decide) rfl (fun ls hl => ?_)
          refine lv_goto (tgt := 4) hx hb dX8_louds_33 (by decide) ?_
          exact ih4 (k_ + 1) (i_ + 1) H locs ls (⟨by simp [cntF, c20, hi1], by omega⟩) (by omega) (hP.sub [0, 1] rfl) hS (lv_sub hl [2, 1, 0] rfl)
  exact loop4 _ 0 0 H locs ls (⟨rfl, by omega⟩) (Nat.lt_succ_self _) (hP.sub [0, 1] rfl) hS (lv_sub hl [2, 1, 0] rfl)
theorem hdX8_waiting : yX8_waiting.cls = RX8 ∧ yX8_waiting.cls ≠ "java/lang/invoke/MethodHandle" ∧ yX8_waiting.cls ≠ "java/lang/invoke/VarHandle" ∧ (parseMethodDescriptor yX8_waiting.desc).map (fun d => d.parameters.length) = some 0 := by decide +kernel
set_option maxHeartbeats 4000000 in
set_option maxRecDepth 100000 in
theorem kX8_waiting (ln : Launch) (dg : va_G) (tq : ClassId × ClassId) (m0 ms mw mt su pt td wy : Nat) (xs xt xa : Int32) (s : Row) (hW : WF s) : MR ln yX8_waiting wsX8_waiting (rmm 2 43) dg tq [.ref m0] [(m0, .inr (8, [.ref ms, .ref mw, .int xs, .ref mt, .int xt, .int xa, .ref su, .ref pt, .ref td, .ref wy])), (ms, .inl (tq.1, 1445, .inl s))] (fun r => r = (nI (cntF (waitB s) (nB s)))) := by
  refine MR.enter cX8_waiting 3 .int (by decide) rfl rfl (Nat.le_of_ble_eq_true rfl) ?_
  intro pP eE sS mM aA bB mT cC QQ AA hA hAT hret H locs hP hS ls hl
  obtain ⟨hx, hb, hml, hown, hts, hK, hN⟩ := hAT
  have hown : sS.vm.findClass RX8 = some mM.cls := hown
  have hl : lv_has ls 3 [(0, .ref m0)] := hl
  have in8 : ∀ w ∈ u_ws RX8 TX8 10, w ∈ wsX8_waiting := (fun _ h9 => List.mem_cons_of_mem _ (List.mem_append_right _ h9))
  have f7 := hts (.fieldLink RX8 7 "OrphanChainModel" "s" "[I") (List.mem_of_getElem? (i := 1) rfl)
  have hn60 := hW.n60
  have hb10 := hW.b10
  have hs8 := hW.s8
  have hhn := hW.hn
  refine lv_iconst (v := (nI 0)) hx hb dX8_waiting_0 (by decide) ?_
  refine lv_istore_n (lv' := [(1, .int (nI 0)), (0, .ref m0)]) hx hb dX8_waiting_1 rfl hl (by decide) rfl (fun ls hl => ?_)
  refine lv_iconst (v := (nI 0)) hx hb dX8_waiting_2 (by decide) ?_
  refine lv_istore_n (lv' := [(2, .int (nI 0)), (1, .int (nI 0)), (0, .ref m0)]) hx hb dX8_waiting_3 rfl hl (by decide) rfl (fun ls hl => ?_)
  have loop4 : ∀ (fu : Nat) (k_ : Nat) (i_ : Nat) (H : Heap) (locs : List Loc) (ls : Array Slot), (k_ = cntF (waitB s) i_ ∧ i_ ≤ nB s) → nB s - i_ < fu → va_P dg vwCl [(m0, .inr (8, [.ref ms, .ref mw, .int xs, .ref mt, .int xt, .int xa, .ref su, .ref pt, .ref td, .ref wy])), (ms, .inl (tq.1, 1445, .inl s))] H → va_S AA sS.heap H locs → lv_has ls 3 [(0, .ref m0), (1, .int (nI k_)), (2, .int (nI i_))] → W pP ln eE (rmm 2 43) sS mM aA bB mT cC H locs 0 0 QQ (F0 mM 4 ls []) := by
    intro fu
    induction fu with
    | zero => intro k_ i_ H locs ls _ hm; exact absurd hm (Nat.not_lt_zero _)
    | succ fu ih4 =>
      intro k_ i_ H locs ls hinv hm hP hS hl
      obtain ⟨hi1, hi2⟩ := hinv
      refine lv_iload_n hx hb dX8_waiting_4 rfl (lv_at hl 2 rfl) ?_
      refine lv_aload_n hx hb dX8_waiting_5 rfl (lv_at hl 0 rfl) ?_
      refine va_get (D := dg) (ci := 8) (v := .ref ms) (C := RX8) (T := TX8) (N := 10) hx hb hts in8 hown hK hP 0 rfl rfl 0 (by decide) f7 (fun _ h9 => h9) rfl dX8_waiting_6 ?_
      refine lv_iconst (v := (nI 2)) hx hb dX8_waiting_9 (by decide) ?_
      refine r_iald_n hx hb hK hP 1 rfl (k := 2) (by omega) (by omega) dX8_waiting_10 ?_
      refine r_top (show (s 2) = (nI (nB s)) from (hW.b)) ?_
      refine r_icmp_ge (tgt := 36) hx hb (nI_tI (by omega)) (nI_tI (by omega)) dX8_waiting_11 (by decide) (fun c11 => ?_) (fun c11 => ?_)
      · skip
        refine lv_iload_n hx hb dX8_waiting_36 rfl (lv_at hl 1 rfl) ?_
        exact hret (nI k_) H locs _ ls (by rw [hi1, show i_ = nB s by omega]) rfl hS dX8_waiting_37
      · skip
        refine lv_iload_n hx hb dX8_waiting_14 rfl (lv_at hl 1 rfl) ?_
        refine lv_aload_n hx hb dX8_waiting_15 rfl (lv_at hl 0 rfl) ?_
        refine lv_iload_n hx hb dX8_waiting_16 rfl (lv_at hl 2 rfl) ?_
        refine call_x (va_runV (As := [.int (nI i_)]) (rest := [.int (nI k_)]) ⟨hx, hb, hml, hown, hts⟩ (kX8_isWaiting ln dg tq (m0 := m0) (ms := ms) (mw := mw) (mt := mt) (su := su) (pt := pt) (td := td) (wy := wy) (xs := xs) (xt := xt) (xa := xa) (s := s) (b := i_) (hb0 := (by omega)) H.size) (cwV 1 hts gX8_waiting_X8_isWaiting rfl rfl rfl hdX8_isWaiting ⟨Nat.le_of_ble_eq_true rfl, Nat.le_of_ble_eq_true rfl⟩) (preVR hK hN hP [0, 1] rfl 0 rfl rfl [.int (nI i_)]) rfl rfl hl.1 rfl (lv_room (Nat.le_of_ble_eq_true rfl)) dX8_waiting_17 ⟨Nat.le_refl _, Nat.le_refl _⟩) hP hS hA (fun H locs hP hS => ?_)
        refine r_if_eq_b (tgt := 27) hx hb dX8_waiting_20 (by decide) (fun c20 => ?_) (fun c20 => ?_)
        · skip
          refine lv_iconst (v := (nI 0)) hx hb dX8_waiting_27 (by decide) ?_
          refine r_iadd_n hx hb dX8_waiting_28 ?_
          refine lv_istore_n (lv' := [(1, .int (nI (k_ + 0))), (0, .ref m0), (2, .int (nI i_))]) hx hb dX8_waiting_29 rfl hl (by decide) rfl (fun ls hl => ?_)
          refine lv_iinc (v := (nI (i_ + 1))) (lv' := [(2, .int (nI (i_ + 1))), (1, .int (nI (k_ + 0))), (0, .ref m0)]) hx hb dX8_waiting_30 hl (k := 2) rfl (nI_add _ _) (by decide) rfl (fun ls hl => ?_)
          refine lv_goto (tgt := 4) hx hb dX8_waiting_33 (by decide) ?_
          exact ih4 (k_ + 0) (i_ + 1) H locs ls (⟨by simp [cntF, c20, hi1], by omega⟩) (by omega) (hP.sub [0, 1] rfl) hS (lv_sub hl [2, 1, 0] rfl)
        · skip
          refine lv_iconst (v := (nI 1)) hx hb dX8_waiting_23 (by decide) ?_
          refine lv_goto (tgt := 28) hx hb dX8_waiting_24 (by decide) ?_
          refine r_iadd_n hx hb dX8_waiting_28 ?_
          refine lv_istore_n (lv' := [(1, .int (nI (k_ + 1))), (0, .ref m0), (2, .int (nI i_))]) hx hb dX8_waiting_29 rfl hl (by decide) rfl (fun ls hl => ?_)
          refine lv_iinc (v := (nI (i_ + 1))) (lv' := [(2, .int (nI (i_ + 1))), (1, .int (nI (k_ + 1))), (0, .ref m0)]) hx hb dX8_waiting_30 hl (k := 2) rfl (nI_add _ _) (by decide) rfl (fun ls hl => ?_)
          refine lv_goto (tgt := 4) hx hb dX8_waiting_33 (by decide) ?_
          exact ih4 (k_ + 1) (i_ + 1) H locs ls (⟨by simp [cntF, c20, hi1], by omega⟩) (by omega) (hP.sub [0, 1] rfl) hS (lv_sub hl [2, 1, 0] rfl)
  exact loop4 _ 0 0 H locs ls (⟨rfl, by omega⟩) (Nat.lt_succ_self _) (hP.sub [0, 1] rfl) hS (lv_sub hl [2, 1, 0] rfl)
theorem hdX8_isWhole : yX8_isWhole.cls = RX8 ∧ yX8_isWhole.cls ≠ "java/lang/invoke/MethodHandle" ∧ yX8_isWhole.cls ≠ "java/lang/invoke/VarHandle" ∧ (parseMethodDescriptor yX8_isWhole.desc).map (fun d => d.parameters.length) = some 1 := by decide +kernel
set_option maxHeartbeats 4000000 in
set_option maxRecDepth 100000 in
theorem kX8_isWhole (ln : Launch) (dg : va_G) (tq : ClassId × ClassId) (m0 ms mw mt su pt td wy : Nat) (xs xt xa : Int32) (s : Row) (hW : WF s) (k : Nat) (hk : k < nS s) : MR ln yX8_isWhole wsX8_isWhole (rmm 1 22) dg tq [.ref m0, .int (nI k)] [(m0, .inr (8, [.ref ms, .ref mw, .int xs, .ref mt, .int xt, .int xa, .ref su, .ref pt, .ref td, .ref wy])), (ms, .inl (tq.1, 1445, .inl s))] (fun r => r = (bI (sealB s k))) := by
  refine MR.enter cX8_isWhole 2 .boolean (by decide) rfl rfl (Nat.le_of_ble_eq_true rfl) ?_
  intro pP eE sS mM aA bB mT cC QQ AA hA hAT hret H locs hP hS ls hl
  obtain ⟨hx, hb, hml, hown, hts, hK, hN⟩ := hAT
  have hown : sS.vm.findClass RX8 = some mM.cls := hown
  have hl : lv_has ls 2 [(0, .ref m0), (1, .int (nI k))] := hl
  have in8 : ∀ w ∈ u_ws RX8 TX8 10, w ∈ wsX8_isWhole := (fun _ h9 => List.mem_cons_of_mem _ (List.mem_append_right _ h9))
  have f7 := hts (.fieldLink RX8 7 "OrphanChainModel" "s" "[I") (List.mem_of_getElem? (i := 1) rfl)
  have hn60 := hW.n60
  have hb10 := hW.b10
  have hs8 := hW.s8
  have hhn := hW.hn
  have hse := hW.sEl hk
  refine lv_aload_n hx hb dX8_isWhole_0 rfl (lv_at hl 0 rfl) ?_
  refine lv_aload_n hx hb dX8_isWhole_1 rfl (lv_at hl 0 rfl) ?_
  refine va_get (D := dg) (ci := 8) (v := .ref ms) (C := RX8) (T := TX8) (N := 10) hx hb hts in8 hown hK hP 0 rfl rfl 0 (by decide) f7 (fun _ h9 => h9) rfl dX8_isWhole_2 ?_
  refine lv_sipush (v := (nI 465)) hx hb dX8_isWhole_5 (by decide) ?_
  refine lv_iconst (v := (nI 2)) hx hb dX8_isWhole_8 (by decide) ?_
  refine lv_iload_n hx hb dX8_isWhole_9 rfl (lv_at hl 1 rfl) ?_
  refine r_imul_n hx hb dX8_isWhole_10 ?_
  refine r_iadd_n hx hb dX8_isWhole_11 ?_
  refine r_iald_n hx hb hK hP 1 rfl (k := (465 + (2 * k))) (by omega) (by omega) dX8_isWhole_12 ?_
  refine r_top (show (s (465 + (2 * k))) = (nI (sE s k)) from (hW.se hk).1) ?_
  refine lv_iconst (v := (nI 5)) hx hb dX8_isWhole_13 (by decide) ?_
  refine call_x (va_runV (As := [.int (nI (sE s k)), .int (nI 5)]) (rest := []) ⟨hx, hb, hml, hown, hts⟩ (kX8_en ln dg tq (m0 := m0) (ms := ms) (mw := mw) (mt := mt) (su := su) (pt := pt) (td := td) (wy := wy) (xs := xs) (xt := xt) (xa := xa) (s := s) (e := sE s k) (f := 5) (he := (by omega)) (hf := (by omega)) H.size) (cwV 2 hts gX8_isWhole_X8_en rfl rfl rfl hdX8_en ⟨Nat.le_of_ble_eq_true rfl, Nat.le_of_ble_eq_true rfl⟩) (preVR hK hN hP [0, 1] rfl 0 rfl rfl [.int (nI (sE s k)), .int (nI 5)]) rfl rfl hl.1 rfl (lv_room (Nat.le_of_ble_eq_true rfl)) dX8_isWhole_14 ⟨Nat.le_refl _, Nat.le_refl _⟩) hP hS hA (fun H locs hP hS => ?_)
  refine r_top (show (s (5 + 7 * (sE s k) + 5)) = (me s (sE s k) 5) from rfl) ?_
  refine lv_aload_n hx hb dX8_isWhole_17 rfl (lv_at hl 0 rfl) ?_
  refine va_get (D := dg) (ci := 8) (v := .ref ms) (C := RX8) (T := TX8) (N := 10) hx hb hts in8 hown hK hP 0 rfl rfl 0 (by decide) f7 (fun _ h9 => h9) rfl dX8_isWhole_18 ?_
  refine lv_sipush (v := (nI 465)) hx hb dX8_isWhole_21 (by decide) ?_
  refine lv_iconst (v := (nI 2)) hx hb dX8_isWhole_24 (by decide) ?_
  refine lv_iload_n hx hb dX8_isWhole_25 rfl (lv_at hl 1 rfl) ?_
  refine r_imul_n hx hb dX8_isWhole_26 ?_
  refine r_iadd_n hx hb dX8_isWhole_27 ?_
  refine lv_iconst (v := (nI 1)) hx hb dX8_isWhole_28 (by decide) ?_
  refine r_iadd_n hx hb dX8_isWhole_29 ?_
  refine r_iald_n hx hb hK hP 1 rfl (k := ((465 + (2 * k)) + 1)) (by omega) (by omega) dX8_isWhole_30 ?_
  refine lv_icmp_ne (tgt := 38) hx hb dX8_isWhole_31 (by decide) (fun c31 => ?_) (fun c31 => ?_)
  · skip
    refine lv_iconst (v := (nI 0)) hx hb dX8_isWhole_38 (by decide) ?_
    exact hret (nI 0) H locs _ ls (by unfold sealB; first | exact (bI_pos (by assumption)).symm | exact (bI_neg (by assumption)).symm) rfl hS dX8_isWhole_39
  · skip
    refine lv_iconst (v := (nI 1)) hx hb dX8_isWhole_34 (by decide) ?_
    refine lv_goto (tgt := 39) hx hb dX8_isWhole_35 (by decide) ?_
    exact hret (nI 1) H locs _ ls (by unfold sealB; first | exact (bI_pos (by assumption)).symm | exact (bI_neg (by assumption)).symm) rfl hS dX8_isWhole_39
theorem hdX8_broken : yX8_broken.cls = RX8 ∧ yX8_broken.cls ≠ "java/lang/invoke/MethodHandle" ∧ yX8_broken.cls ≠ "java/lang/invoke/VarHandle" ∧ (parseMethodDescriptor yX8_broken.desc).map (fun d => d.parameters.length) = some 0 := by decide +kernel
set_option maxHeartbeats 4000000 in
set_option maxRecDepth 100000 in
theorem kX8_broken (ln : Launch) (dg : va_G) (tq : ClassId × ClassId) (m0 ms mw mt su pt td wy : Nat) (xs xt xa : Int32) (s : Row) (hW : WF s) : MR ln yX8_broken wsX8_broken (rmm 2 43) dg tq [.ref m0] [(m0, .inr (8, [.ref ms, .ref mw, .int xs, .ref mt, .int xt, .int xa, .ref su, .ref pt, .ref td, .ref wy])), (ms, .inl (tq.1, 1445, .inl s))] (fun r => r = (nI (cntF (fun k => !sealB s k) (nS s)))) := by
  refine MR.enter cX8_broken 3 .int (by decide) rfl rfl (Nat.le_of_ble_eq_true rfl) ?_
  intro pP eE sS mM aA bB mT cC QQ AA hA hAT hret H locs hP hS ls hl
  obtain ⟨hx, hb, hml, hown, hts, hK, hN⟩ := hAT
  have hown : sS.vm.findClass RX8 = some mM.cls := hown
  have hl : lv_has ls 3 [(0, .ref m0)] := hl
  have in8 : ∀ w ∈ u_ws RX8 TX8 10, w ∈ wsX8_broken := (fun _ h9 => List.mem_cons_of_mem _ (List.mem_append_right _ h9))
  have f7 := hts (.fieldLink RX8 7 "OrphanChainModel" "s" "[I") (List.mem_of_getElem? (i := 1) rfl)
  have hn60 := hW.n60
  have hb10 := hW.b10
  have hs8 := hW.s8
  have hhn := hW.hn
  refine lv_iconst (v := (nI 0)) hx hb dX8_broken_0 (by decide) ?_
  refine lv_istore_n (lv' := [(1, .int (nI 0)), (0, .ref m0)]) hx hb dX8_broken_1 rfl hl (by decide) rfl (fun ls hl => ?_)
  refine lv_iconst (v := (nI 0)) hx hb dX8_broken_2 (by decide) ?_
  refine lv_istore_n (lv' := [(2, .int (nI 0)), (1, .int (nI 0)), (0, .ref m0)]) hx hb dX8_broken_3 rfl hl (by decide) rfl (fun ls hl => ?_)
  have loop4 : ∀ (fu : Nat) (k_ : Nat) (i_ : Nat) (H : Heap) (locs : List Loc) (ls : Array Slot), (k_ = cntF (fun k => !sealB s k) i_ ∧ i_ ≤ nS s) → nS s - i_ < fu → va_P dg vwCl [(m0, .inr (8, [.ref ms, .ref mw, .int xs, .ref mt, .int xt, .int xa, .ref su, .ref pt, .ref td, .ref wy])), (ms, .inl (tq.1, 1445, .inl s))] H → va_S AA sS.heap H locs → lv_has ls 3 [(0, .ref m0), (1, .int (nI k_)), (2, .int (nI i_))] → W pP ln eE (rmm 2 43) sS mM aA bB mT cC H locs 0 0 QQ (F0 mM 4 ls []) := by
    intro fu
    induction fu with
    | zero => intro k_ i_ H locs ls _ hm; exact absurd hm (Nat.not_lt_zero _)
    | succ fu ih4 =>
      intro k_ i_ H locs ls hinv hm hP hS hl
      obtain ⟨hi1, hi2⟩ := hinv
      refine lv_iload_n hx hb dX8_broken_4 rfl (lv_at hl 2 rfl) ?_
      refine lv_aload_n hx hb dX8_broken_5 rfl (lv_at hl 0 rfl) ?_
      refine va_get (D := dg) (ci := 8) (v := .ref ms) (C := RX8) (T := TX8) (N := 10) hx hb hts in8 hown hK hP 0 rfl rfl 0 (by decide) f7 (fun _ h9 => h9) rfl dX8_broken_6 ?_
      refine lv_iconst (v := (nI 4)) hx hb dX8_broken_9 (by decide) ?_
      refine r_iald_n hx hb hK hP 1 rfl (k := 4) (by omega) (by omega) dX8_broken_10 ?_
      refine r_top (show (s 4) = (nI (nS s)) from (hW.s)) ?_
      refine r_icmp_ge (tgt := 36) hx hb (nI_tI (by omega)) (nI_tI (by omega)) dX8_broken_11 (by decide) (fun c11 => ?_) (fun c11 => ?_)
      · skip
        refine lv_iload_n hx hb dX8_broken_36 rfl (lv_at hl 1 rfl) ?_
        exact hret (nI k_) H locs _ ls (by rw [hi1, show i_ = nS s by omega]) rfl hS dX8_broken_37
      · skip
        refine lv_iload_n hx hb dX8_broken_14 rfl (lv_at hl 1 rfl) ?_
        refine lv_aload_n hx hb dX8_broken_15 rfl (lv_at hl 0 rfl) ?_
        refine lv_iload_n hx hb dX8_broken_16 rfl (lv_at hl 2 rfl) ?_
        refine call_x (va_runV (As := [.int (nI i_)]) (rest := [.int (nI k_)]) ⟨hx, hb, hml, hown, hts⟩ (kX8_isWhole ln dg tq (m0 := m0) (ms := ms) (mw := mw) (mt := mt) (su := su) (pt := pt) (td := td) (wy := wy) (xs := xs) (xt := xt) (xa := xa) (s := s) (hW := hW) (k := i_) (hk := (by omega)) H.size) (cwV 1 hts gX8_broken_X8_isWhole rfl rfl rfl hdX8_isWhole ⟨Nat.le_of_ble_eq_true rfl, Nat.le_of_ble_eq_true rfl⟩) (preVR hK hN hP [0, 1] rfl 0 rfl rfl [.int (nI i_)]) rfl rfl hl.1 rfl (lv_room (Nat.le_of_ble_eq_true rfl)) dX8_broken_17 ⟨Nat.le_refl _, Nat.le_refl _⟩) hP hS hA (fun H locs hP hS => ?_)
        refine r_if_eq_b (tgt := 27) hx hb dX8_broken_20 (by decide) (fun c20 => ?_) (fun c20 => ?_)
        · skip
          refine lv_iconst (v := (nI 1)) hx hb dX8_broken_27 (by decide) ?_
          refine r_iadd_n hx hb dX8_broken_28 ?_
          refine lv_istore_n (lv' := [(1, .int (nI (k_ + 1))), (0, .ref m0), (2, .int (nI i_))]) hx hb dX8_broken_29 rfl hl (by decide) rfl (fun ls hl => ?_)
          refine lv_iinc (v := (nI (i_ + 1))) (lv' := [(2, .int (nI (i_ + 1))), (1, .int (nI (k_ + 1))), (0, .ref m0)]) hx hb dX8_broken_30 hl (k := 2) rfl (nI_add _ _) (by decide) rfl (fun ls hl => ?_)
          refine lv_goto (tgt := 4) hx hb dX8_broken_33 (by decide) ?_
          exact ih4 (k_ + 1) (i_ + 1) H locs ls (⟨by simp [cntF, c20, hi1], by omega⟩) (by omega) (hP.sub [0, 1] rfl) hS (lv_sub hl [2, 1, 0] rfl)
        · skip
          refine lv_iconst (v := (nI 0)) hx hb dX8_broken_23 (by decide) ?_
          refine lv_goto (tgt := 28) hx hb dX8_broken_24 (by decide) ?_
          refine r_iadd_n hx hb dX8_broken_28 ?_
          refine lv_istore_n (lv' := [(1, .int (nI (k_ + 0))), (0, .ref m0), (2, .int (nI i_))]) hx hb dX8_broken_29 rfl hl (by decide) rfl (fun ls hl => ?_)
          refine lv_iinc (v := (nI (i_ + 1))) (lv' := [(2, .int (nI (i_ + 1))), (1, .int (nI (k_ + 0))), (0, .ref m0)]) hx hb dX8_broken_30 hl (k := 2) rfl (nI_add _ _) (by decide) rfl (fun ls hl => ?_)
          refine lv_goto (tgt := 4) hx hb dX8_broken_33 (by decide) ?_
          exact ih4 (k_ + 0) (i_ + 1) H locs ls (⟨by simp [cntF, c20, hi1], by omega⟩) (by omega) (hP.sub [0, 1] rfl) hS (lv_sub hl [2, 1, 0] rfl)
  exact loop4 _ 0 0 H locs ls (⟨rfl, by omega⟩) (Nat.lt_succ_self _) (hP.sub [0, 1] rfl) hS (lv_sub hl [2, 1, 0] rfl)
theorem hdX8_ofBranch : yX8_ofBranch.cls = RX8 ∧ yX8_ofBranch.cls ≠ "java/lang/invoke/MethodHandle" ∧ yX8_ofBranch.cls ≠ "java/lang/invoke/VarHandle" ∧ (parseMethodDescriptor yX8_ofBranch.desc).map (fun d => d.parameters.length) = some 2 := by decide +kernel
set_option maxHeartbeats 4000000 in
set_option maxRecDepth 100000 in
theorem kX8_ofBranch (ln : Launch) (dg : va_G) (tq : ClassId × ClassId) (m0 ms mw mt su pt td wy : Nat) (xs xt xa : Int32) (s : Row) (hW : WF s) (b k : Nat) (hb0 : b < nB s) (hk : k < mn s b) : MR ln yX8_ofBranch wsX8_ofBranch (rmm 2 46) dg tq [.ref m0, .int (nI b), .int (nI k)] [(m0, .inr (8, [.ref ms, .ref mw, .int xs, .ref mt, .int xt, .int xa, .ref su, .ref pt, .ref td, .ref wy])), (ms, .inl (tq.1, 1445, .inl s))] (fun r => r = (nI (brE s b k))) := by
  refine MR.enter cX8_ofBranch 3 .int (by decide) rfl rfl (Nat.le_of_ble_eq_true rfl) ?_
  intro pP eE sS mM aA bB mT cC QQ AA hA hAT hret H locs hP hS ls hl
  obtain ⟨hx, hb, hml, hown, hts, hK, hN⟩ := hAT
  have hown : sS.vm.findClass RX8 = some mM.cls := hown
  have hl : lv_has ls 3 [(0, .ref m0), (1, .int (nI b)), (2, .int (nI k))] := hl
  have hn60 := hW.n60
  have hb10 := hW.b10
  have hs8 := hW.s8
  have hhn := hW.hn
  have hlf := hW.lfl hb0
  have hmn := hW.mnd hb0
  refine lv_aload_n hx hb dX8_ofBranch_0 rfl (lv_at hl 0 rfl) ?_
  refine lv_aload_n hx hb dX8_ofBranch_1 rfl (lv_at hl 0 rfl) ?_
  refine lv_iload_n hx hb dX8_ofBranch_2 rfl (lv_at hl 1 rfl) ?_
  refine lv_iconst (v := (nI 0)) hx hb dX8_ofBranch_3 (by decide) ?_
  refine call_x (va_runV (As := [.int (nI b), .int (nI 0)]) (rest := [.ref m0]) ⟨hx, hb, hml, hown, hts⟩ (kX8_br ln dg tq (m0 := m0) (ms := ms) (mw := mw) (mt := mt) (su := su) (pt := pt) (td := td) (wy := wy) (xs := xs) (xt := xt) (xa := xa) (s := s) (b := b) (f := 0) (hb0 := (by omega)) (hf := (by omega)) H.size) (cwV 2 hts gX8_ofBranch_X8_br rfl rfl rfl hdX8_br ⟨Nat.le_of_ble_eq_true rfl, Nat.le_of_ble_eq_true rfl⟩) (preVR hK hN hP [0, 1] rfl 0 rfl rfl [.int (nI b), .int (nI 0)]) rfl rfl hl.1 rfl (lv_room (Nat.le_of_ble_eq_true rfl)) dX8_ofBranch_4 ⟨Nat.le_refl _, Nat.le_refl _⟩) hP hS hA (fun H locs hP hS => ?_)
  refine r_top (show (s (425 + 4 * b + 0)) = (nI (lf s b)) from (hW.br (b := b) (by omega)).1) ?_
  refine lv_aload_n hx hb dX8_ofBranch_7 rfl (lv_at hl 0 rfl) ?_
  refine lv_iload_n hx hb dX8_ofBranch_8 rfl (lv_at hl 1 rfl) ?_
  refine lv_iconst (v := (nI 1)) hx hb dX8_ofBranch_9 (by decide) ?_
  refine call_x (va_runV (As := [.int (nI b), .int (nI 1)]) (rest := [.int (nI (lf s b)), .ref m0]) ⟨hx, hb, hml, hown, hts⟩ (kX8_br ln dg tq (m0 := m0) (ms := ms) (mw := mw) (mt := mt) (su := su) (pt := pt) (td := td) (wy := wy) (xs := xs) (xt := xt) (xa := xa) (s := s) (b := b) (f := 1) (hb0 := (by omega)) (hf := (by omega)) H.size) (cwV 2 hts gX8_ofBranch_X8_br rfl rfl rfl hdX8_br ⟨Nat.le_of_ble_eq_true rfl, Nat.le_of_ble_eq_true rfl⟩) (preVR hK hN hP [0, 1] rfl 0 rfl rfl [.int (nI b), .int (nI 1)]) rfl rfl hl.1 rfl (lv_room (Nat.le_of_ble_eq_true rfl)) dX8_ofBranch_10 ⟨Nat.le_refl _, Nat.le_refl _⟩) hP hS hA (fun H locs hP hS => ?_)
  refine r_top (show (s (425 + 4 * b + 1)) = (nI (mn s b)) from (hW.br (b := b) (by omega)).2.2.1) ?_
  refine lv_iconst (v := (nI 1)) hx hb dX8_ofBranch_13 (by decide) ?_
  refine r_isub_n hx hb (by omega) dX8_ofBranch_14 ?_
  refine lv_iload_n hx hb dX8_ofBranch_15 rfl (lv_at hl 2 rfl) ?_
  refine r_isub_n hx hb (by omega) dX8_ofBranch_16 ?_
  refine call_x (va_runV (As := [.int (nI (lf s b)), .int (nI (((mn s b) - 1) - k))]) (rest := []) ⟨hx, hb, hml, hown, hts⟩ (kX8_above ln dg tq (m0 := m0) (ms := ms) (mw := mw) (mt := mt) (su := su) (pt := pt) (td := td) (wy := wy) (xs := xs) (xt := xt) (xa := xa) (s := s) (hW := hW) (y := lf s b) (k := ((mn s b) - 1) - k) (hy := (by omega)) (hk := (by omega)) H.size) (cwV 2 hts gX8_ofBranch_X8_above rfl rfl rfl hdX8_above ⟨Nat.le_of_ble_eq_true rfl, Nat.le_of_ble_eq_true rfl⟩) (preVR hK hN hP [0, 1] rfl 0 rfl rfl [.int (nI (lf s b)), .int (nI (((mn s b) - 1) - k))]) rfl rfl hl.1 rfl (lv_room (Nat.le_of_ble_eq_true rfl)) dX8_ofBranch_17 ⟨Nat.le_refl _, Nat.le_refl _⟩) hP hS hA (fun H locs hP hS => ?_)
  exact hret (nI (up s (lf s b) (((mn s b) - 1) - k))) H locs _ ls (rfl) rfl hS dX8_ofBranch_20
theorem hdX8_meet : yX8_meet.cls = RX8 ∧ yX8_meet.cls ≠ "java/lang/invoke/MethodHandle" ∧ yX8_meet.cls ≠ "java/lang/invoke/VarHandle" ∧ (parseMethodDescriptor yX8_meet.desc).map (fun d => d.parameters.length) = some 2 := by decide +kernel
set_option maxHeartbeats 4000000 in
set_option maxRecDepth 100000 in
theorem kX8_meet (ln : Launch) (dg : va_G) (tq : ClassId × ClassId) (m0 ms mw mt su pt td wy : Nat) (xs xt xa : Int32) (s : Row) (hW : WF s) (x y : Nat) (hx : x < nE s) (hy : y < nE s) : MR ln yX8_meet wsX8_meet (rmm 2 45) dg tq [.ref m0, .int (nI x), .int (nI y)] [(m0, .inr (8, [.ref ms, .ref mw, .int xs, .ref mt, .int xt, .int xa, .ref su, .ref pt, .ref td, .ref wy])), (ms, .inl (tq.1, 1445, .inl s))] (fun r => r = (nI (meet s x y))) := by
  refine MR.enter cX8_meet 4 .int (by decide) rfl rfl (Nat.le_of_ble_eq_true rfl) ?_
  intro pP eE sS mM aA bB mT cC QQ AA hA hAT hret H locs hP hS ls hl
  obtain ⟨hx, hb, hml, hown, hts, hK, hN⟩ := hAT
  have hown : sS.vm.findClass RX8 = some mM.cls := hown
  have hl : lv_has ls 4 [(0, .ref m0), (1, .int (nI x)), (2, .int (nI y))] := hl
  have hn60 := hW.n60
  have hb10 := hW.b10
  have hs8 := hW.s8
  have hhn := hW.hn
  refine lv_iload_n hx hb dX8_meet_0 rfl (lv_at hl 1 rfl) ?_
  refine lv_istore_n (lv' := [(3, .int (nI x)), (0, .ref m0), (1, .int (nI x)), (2, .int (nI y))]) hx hb dX8_meet_1 rfl hl (by decide) rfl (fun ls hl => ?_)
  have loop2 : ∀ (fu : Nat) (at_ : Nat) (H : Heap) (locs : List Loc) (ls : Array Slot), (meet s x y = meet s at_ y ∧ at_ < nE s) → at_ < fu → va_P dg vwCl [(m0, .inr (8, [.ref ms, .ref mw, .int xs, .ref mt, .int xt, .int xa, .ref su, .ref pt, .ref td, .ref wy])), (ms, .inl (tq.1, 1445, .inl s))] H → va_S AA sS.heap H locs → lv_has ls 4 [(0, .ref m0), (1, .int (nI x)), (2, .int (nI y)), (3, .int (nI at_))] → W pP ln eE (rmm 2 45) sS mM aA bB mT cC H locs 0 0 QQ (F0 mM 2 ls []) := by
    intro fu
    induction fu with
    | zero => intro at_ H locs ls _ hm; exact absurd hm (Nat.not_lt_zero _)
    | succ fu ih2 =>
      intro at_ H locs ls hinv hm hP hS hl
      obtain ⟨hi1, hi2⟩ := hinv
      refine lv_aload_n hx hb dX8_meet_2 rfl (lv_at hl 0 rfl) ?_
      refine lv_iload_n hx hb dX8_meet_3 rfl (lv_at hl 3 rfl) ?_
      refine lv_iload_n hx hb dX8_meet_4 rfl (lv_at hl 2 rfl) ?_
      refine call_x (va_runV (As := [.int (nI at_), .int (nI y)]) (rest := []) ⟨hx, hb, hml, hown, hts⟩ (kX8_isOnPath ln dg tq (m0 := m0) (ms := ms) (mw := mw) (mt := mt) (su := su) (pt := pt) (td := td) (wy := wy) (xs := xs) (xt := xt) (xa := xa) (s := s) (hW := hW) (x := at_) (y := y) (hx := (by omega)) (hy := (by omega)) H.size) (cwV 2 hts gX8_meet_X8_isOnPath rfl rfl rfl hdX8_isOnPath ⟨Nat.le_of_ble_eq_true rfl, Nat.le_of_ble_eq_true rfl⟩) (preVR hK hN hP [0, 1] rfl 0 rfl rfl [.int (nI at_), .int (nI y)]) rfl rfl hl.1 rfl (lv_room (Nat.le_of_ble_eq_true rfl)) dX8_meet_5 ⟨Nat.le_refl _, Nat.le_refl _⟩) hP hS hA (fun H locs hP hS => ?_)
      refine r_if_ne_b (tgt := 21) hx hb dX8_meet_8 (by decide) (fun c8 => ?_) (fun c8 => ?_)
      · skip
        refine lv_iload_n hx hb dX8_meet_21 rfl (lv_at hl 3 rfl) ?_
        exact hret (nI at_) H locs _ ls (by rw [hi1, meet_t c8]) rfl hS dX8_meet_22
      · skip
        have h0p : 0 < at_ := Nat.pos_of_ne_zero (fun z => by rw [z, onP_0 hW y (by omega)] at c8; cases c8)
        refine lv_aload_n hx hb dX8_meet_11 rfl (lv_at hl 0 rfl) ?_
        refine lv_iload_n hx hb dX8_meet_12 rfl (lv_at hl 3 rfl) ?_
        refine lv_iconst (v := (nI 0)) hx hb dX8_meet_13 (by decide) ?_
        refine call_x (va_runV (As := [.int (nI at_), .int (nI 0)]) (rest := []) ⟨hx, hb, hml, hown, hts⟩ (kX8_en ln dg tq (m0 := m0) (ms := ms) (mw := mw) (mt := mt) (su := su) (pt := pt) (td := td) (wy := wy) (xs := xs) (xt := xt) (xa := xa) (s := s) (e := at_) (f := 0) (he := (by omega)) (hf := (by omega)) H.size) (cwV 2 hts gX8_meet_X8_en rfl rfl rfl hdX8_en ⟨Nat.le_of_ble_eq_true rfl, Nat.le_of_ble_eq_true rfl⟩) (preVR hK hN hP [0, 1] rfl 0 rfl rfl [.int (nI at_), .int (nI 0)]) rfl rfl hl.1 rfl (lv_room (Nat.le_of_ble_eq_true rfl)) dX8_meet_14 ⟨Nat.le_refl _, Nat.le_refl _⟩) hP hS hA (fun H locs hP hS => ?_)
        refine r_top (show (s (5 + 7 * at_ + 0)) = (nI (pa s at_)) from hW.p (by omega) (by omega)) ?_
        refine lv_istore_n (lv' := [(3, .int (nI (pa s at_))), (0, .ref m0), (1, .int (nI x)), (2, .int (nI y))]) hx hb dX8_meet_17 rfl hl (by decide) rfl (fun ls hl => ?_)
        refine lv_goto (tgt := 2) hx hb dX8_meet_18 (by decide) ?_
        exact ih2 (pa s at_) H locs ls (⟨by rw [hi1, meet_s hW c8 (by omega) (by omega)], by have hpl := hW.pl (e := at_) h0p (by omega); omega⟩) (by have hpl := hW.pl (e := at_) h0p (by omega); omega) (hP.sub [0, 1] rfl) hS (lv_sub hl [1, 2, 3, 0] rfl)
  exact loop2 _ x H locs ls (⟨rfl, by omega⟩) (Nat.lt_succ_self _) (hP.sub [0, 1] rfl) hS (lv_sub hl [1, 2, 3, 0] rfl)
