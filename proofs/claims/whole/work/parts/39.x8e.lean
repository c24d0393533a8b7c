set_option maxHeartbeats 4000000 in
set_option maxRecDepth 100000 in
theorem kX8_counts__g (ln : Launch) (dg : va_G) (tq : ClassId × ClassId) (m0 ms mw mt su pt td wy : Nat) (xs xt xa : Int32) (s f : Row) (hW : WG s) (v : Nat → Int) (hV : SV f v) (e : Nat) (he : e < nE s) : MV ln yX8_counts wsX8_counts (rmm 1 22) dg tq [.ref m0, .int (nI e), .int (nI 1)] [(m0, .inr (8, [.ref ms, .ref mw, .int xs, .ref mt, .int xt, .int xa, .ref su, .ref pt, .ref td, .ref wy])), (ms, .inl (tq.1, 1445, .inl s)), (su, .inl (tq.1, 6, .inl f))] (fun (u : Row) => SV u (addV s v e)) (fun u => [(m0, .inr (8, [.ref ms, .ref mw, .int xs, .ref mt, .int xt, .int xa, .ref su, .ref pt, .ref td, .ref wy])), (ms, .inl (tq.1, 1445, .inl s)), (su, .inl (tq.1, 6, .inl u))]) := by
  refine MV.enter cX8_counts 4 (by decide) rfl rfl (Nat.le_of_ble_eq_true rfl) ?_
  intro pP eE sS mM aA bB mT cC QQ AA hA hAT hret H locs hP hD hS ls hl
  obtain ⟨hx, hb, hml, hown, hts, hK, hN⟩ := hAT
  have hown : sS.vm.findClass RX8 = some mM.cls := hown
  have hl : lv_has ls 4 [(0, .ref m0), (1, .int (nI e)), (2, .int (nI 1))] := hl
  have in8 : ∀ w ∈ u_ws RX8 TX8 10, w ∈ wsX8_counts := (fun _ h9 => List.mem_cons_of_mem _ (List.mem_append_right _ h9))
  have f20 := hts (.fieldLink RX8 20 "OrphanChainModel" "sums" "[I") (List.mem_of_getElem? (i := 1) rfl)
  have hn60 := hW.n60
  have h1l := hW.a1l he
  have h2l := hW.a2l he
  have h12 := fun h => hW.a12 he h
  refine lv_aload_n hx hb dX8_counts_0 rfl (lv_at hl 0 rfl) ?_
  refine lv_iload_n hx hb dX8_counts_1 rfl (lv_at hl 1 rfl) ?_
  refine lv_iconst (v := (nI 1)) hx hb dX8_counts_2 (by decide) ?_
  refine call_x (va_runV (As := [.int (nI e), .int (nI 1)]) (rest := []) ⟨hx, hb, hml, hown, hts⟩ (kX8_en ln dg tq (m0 := m0) (ms := ms) (mw := mw) (mt := mt) (su := su) (pt := pt) (td := td) (wy := wy) (xs := xs) (xt := xt) (xa := xa) (s := s) (e := e) (f := 1) (he := (by omega)) (hf := (by omega)) H.size) (cwV 2 hts gX8_counts_X8_en rfl rfl rfl hdX8_en ⟨Nat.le_of_ble_eq_true rfl, Nat.le_of_ble_eq_true rfl⟩) (preVR hK hN hP [0, 1] rfl 0 rfl rfl [.int (nI e), .int (nI 1)]) rfl rfl hl.1 rfl (lv_room (Nat.le_of_ble_eq_true rfl)) dX8_counts_3 ⟨Nat.le_refl _, Nat.le_refl _⟩) hP hS hA (fun H locs hP hS => ?_)
  refine r_top (show (s (5 + 7 * e + 1)) = (me s e 1) from rfl) ?_
  refine lv_istore_n (lv' := [(3, .int (me s e 1)), (0, .ref m0), (1, .int (nI e)), (2, .int (nI 1))]) hx hb dX8_counts_6 rfl hl (by decide) rfl (fun ls hl => ?_)
  refine lv_iload_n hx hb dX8_counts_7 rfl (lv_at hl 0 rfl) ?_
  refine lv_iconst (v := (nI 2)) hx hb dX8_counts_8 (by decide) ?_
  refine r_icmp_eq (tgt := 17) hx hb rfl (nI_tI (by omega)) dX8_counts_9 (by decide) (fun c9 => ?_) (fun c9 => ?_)
  · skip
    refine lv_aload_n hx hb dX8_counts_17 rfl (lv_at hl 1 rfl) ?_
    refine va_get (D := dg) (ci := 8) (v := .ref su) (C := RX8) (T := TX8) (N := 10) hx hb hts in8 hown hK hP 0 rfl rfl 6 (by decide) f20 (fun _ h9 => h9) rfl dX8_counts_18 ?_
    refine lv_aload_n hx hb dX8_counts_21 rfl (lv_at hl 1 rfl) ?_
    refine lv_iload_n hx hb dX8_counts_22 rfl (lv_at hl 2 rfl) ?_
    refine lv_iconst (v := (nI 2)) hx hb dX8_counts_23 (by decide) ?_
    refine call_x (va_runV (As := [.int (nI e), .int (nI 2)]) (rest := [.ref su]) ⟨hx, hb, hml, hown, hts⟩ (kX8_en ln dg tq (m0 := m0) (ms := ms) (mw := mw) (mt := mt) (su := su) (pt := pt) (td := td) (wy := wy) (xs := xs) (xt := xt) (xa := xa) (s := s) (e := e) (f := 2) (he := (by omega)) (hf := (by omega)) H.size) (cwV 2 hts gX8_counts_X8_en rfl rfl rfl hdX8_en ⟨Nat.le_of_ble_eq_true rfl, Nat.le_of_ble_eq_true rfl⟩) (preVR hK hN hP [0, 1] rfl 0 rfl rfl [.int (nI e), .int (nI 2)]) rfl rfl hl.1 rfl (lv_room (Nat.le_of_ble_eq_true rfl)) dX8_counts_24 ⟨Nat.le_refl _, Nat.le_refl _⟩) hP hS hA (fun H locs hP hS => ?_)
    refine r_top (show (s (5 + 7 * e + 2)) = (nI (a1 s e)) from (hW.e (e := e) (by omega)).2.1) ?_
    refine lv_dup2_11 hx hb dX8_counts_27 rfl rfl ?_
    refine r_iald_n hx hb hK hP 2 rfl (k := (a1 s e)) (by omega) (by omega) dX8_counts_28 ?_
    refine r_top (show (f (a1 s e)) = (iI (v (a1 s e))) from hV _ h1l) ?_
    refine lv_iload_n hx hb dX8_counts_29 rfl (lv_at hl 3 rfl) ?_
    refine lv_aload_n hx hb dX8_counts_30 rfl (lv_at hl 1 rfl) ?_
    refine lv_iload_n hx hb dX8_counts_31 rfl (lv_at hl 2 rfl) ?_
    refine lv_iconst (v := (nI 4)) hx hb dX8_counts_32 (by decide) ?_
    refine call_x (va_runV (As := [.int (nI e), .int (nI 4)]) (rest := [.int (nI 1), .int (iI (v (a1 s e))), .int (nI (a1 s e)), .ref su]) ⟨hx, hb, hml, hown, hts⟩ (kX8_en ln dg tq (m0 := m0) (ms := ms) (mw := mw) (mt := mt) (su := su) (pt := pt) (td := td) (wy := wy) (xs := xs) (xt := xt) (xa := xa) (s := s) (e := e) (f := 4) (he := (by omega)) (hf := (by omega)) H.size) (cwV 2 hts gX8_counts_X8_en rfl rfl rfl hdX8_en ⟨Nat.le_of_ble_eq_true rfl, Nat.le_of_ble_eq_true rfl⟩) (preVR hK hN hP [0, 1] rfl 0 rfl rfl [.int (nI e), .int (nI 4)]) rfl rfl hl.1 rfl (lv_room (Nat.le_of_ble_eq_true rfl)) dX8_counts_33 ⟨Nat.le_refl _, Nat.le_refl _⟩) hP hS hA (fun H locs hP hS => ?_)
    refine r_top (show (s (5 + 7 * e + 4)) = (iI (am s e)) from am_iI s e) ?_
    refine r_imul_z hx hb (nI_iI _) rfl dX8_counts_36 ?_
    refine r_isub_z hx hb rfl rfl dX8_counts_37 ?_
    refine r_iast_n hx hb hK hP hD hS 2 rfl (k := (a1 s e)) (by omega) (by omega) dX8_counts_38 (fun H locs hP hD hS => ?_)
    have hP : va_P dg vwCl [(m0, .inr (8, [.ref ms, .ref mw, .int xs, .ref mt, .int xt, .int xa, .ref su, .ref pt, .ref td, .ref wy])), (ms, .inl (tq.1, 1445, .inl s)), (su, .inl (tq.1, 6, .inl (upd f (a1 s e) (iI ((v (a1 s e)) - (((1 : Nat) : Int) * (am s e)))))))] H := hP
    have hD : va_D AA [(m0, .inr (8, [.ref ms, .ref mw, .int xs, .ref mt, .int xt, .int xa, .ref su, .ref pt, .ref td, .ref wy])), (ms, .inl (tq.1, 1445, .inl s)), (su, .inl (tq.1, 6, .inl (upd f (a1 s e) (iI ((v (a1 s e)) - (((1 : Nat) : Int) * (am s e)))))))] := hD
    refine lv_iload_n hx hb dX8_counts_39 rfl (lv_at hl 0 rfl) ?_
    refine lv_iconst (v := (nI 1)) hx hb dX8_counts_40 (by decide) ?_
    refine lv_iconst (v := (nI 3)) hx hb dX8_counts_41 (by decide) ?_
    refine call_x (va_runS (As := [.int (me s e 1), .int (nI 1), .int (nI 3)]) (rest := []) ⟨hx, hb, hml, hown, hts⟩ (kX8_in ln dg tq (v := (me s e 1)) (lo := (nI 1)) (hi := (nI 3)) H.size) (va_cwS 3 hts gX8_counts_X8_in rfl rfl rfl hdX8_in.2 ⟨Nat.le_of_ble_eq_true rfl, Nat.le_of_ble_eq_true rfl⟩) (preS0 hK hN [.int (me s e 1), .int (nI 1), .int (nI 3)]) rfl rfl hl.1 rfl (lv_room (Nat.le_of_ble_eq_true rfl)) dX8_counts_42 ⟨Nat.le_refl _, Nat.le_refl _⟩) hP hS hA (fun H locs hP hS => ?_)
    refine r_top (show (bI (inR (me s e 1) (nI 1) (nI 3))) = (bI (bg s e)) from congrArg bI (bg_in s e)) ?_
    refine r_if_eq_b (tgt := 70) hx hb dX8_counts_45 (by decide) (fun c45 => ?_) (fun c45 => ?_)
    · skip
      exact hret ((upd f (a1 s e) (iI ((v (a1 s e)) - (((1 : Nat) : Int) * (am s e)))))) H locs _ ls (cnt_tf hV (tk_t (by omega)) c45 (addV_hw1 s v e)) (hP.sub [0, 1, 2] rfl) (hD.sub [0, 1, 2] (by decide) rfl) hS dX8_counts_70
    · skip
      refine lv_aload_n hx hb dX8_counts_48 rfl (lv_at hl 1 rfl) ?_
      refine va_get (D := dg) (ci := 8) (v := .ref su) (C := RX8) (T := TX8) (N := 10) hx hb hts in8 hown hK hP 0 rfl rfl 6 (by decide) f20 (fun _ h9 => h9) rfl dX8_counts_49 ?_
      refine lv_aload_n hx hb dX8_counts_52 rfl (lv_at hl 1 rfl) ?_
      refine lv_iload_n hx hb dX8_counts_53 rfl (lv_at hl 2 rfl) ?_
      refine lv_iconst (v := (nI 3)) hx hb dX8_counts_54 (by decide) ?_
      refine call_x (va_runV (As := [.int (nI e), .int (nI 3)]) (rest := [.ref su]) ⟨hx, hb, hml, hown, hts⟩ (kX8_en ln dg tq (m0 := m0) (ms := ms) (mw := mw) (mt := mt) (su := su) (pt := pt) (td := td) (wy := wy) (xs := xs) (xt := xt) (xa := xa) (s := s) (e := e) (f := 3) (he := (by omega)) (hf := (by omega)) H.size) (cwV 2 hts gX8_counts_X8_en rfl rfl rfl hdX8_en ⟨Nat.le_of_ble_eq_true rfl, Nat.le_of_ble_eq_true rfl⟩) (preVR hK hN hP [0, 1] rfl 0 rfl rfl [.int (nI e), .int (nI 3)]) rfl rfl hl.1 rfl (lv_room (Nat.le_of_ble_eq_true rfl)) dX8_counts_55 ⟨Nat.le_refl _, Nat.le_refl _⟩) hP hS hA (fun H locs hP hS => ?_)
      refine r_top (show (s (5 + 7 * e + 3)) = (nI (a2 s e)) from (hW.e (e := e) (by omega)).2.2.2.1) ?_
      refine lv_dup2_11 hx hb dX8_counts_58 rfl rfl ?_
      refine r_iald_n hx hb hK hP 2 rfl (k := (a2 s e)) (by omega) (by omega) dX8_counts_59 ?_
      refine r_top (show ((upd f (a1 s e) (iI ((v (a1 s e)) - (((1 : Nat) : Int) * (am s e))))) (a2 s e)) = (iI (v (a2 s e))) from by rw [pk_un (Ne.symm (h12 (tk_t (by omega))))]; exact hV _ h2l) ?_
      refine lv_iload_n hx hb dX8_counts_60 rfl (lv_at hl 3 rfl) ?_
      refine lv_aload_n hx hb dX8_counts_61 rfl (lv_at hl 1 rfl) ?_
      refine lv_iload_n hx hb dX8_counts_62 rfl (lv_at hl 2 rfl) ?_
      refine lv_iconst (v := (nI 4)) hx hb dX8_counts_63 (by decide) ?_
      refine call_x (va_runV (As := [.int (nI e), .int (nI 4)]) (rest := [.int (nI 1), .int (iI (v (a2 s e))), .int (nI (a2 s e)), .ref su]) ⟨hx, hb, hml, hown, hts⟩ (kX8_en ln dg tq (m0 := m0) (ms := ms) (mw := mw) (mt := mt) (su := su) (pt := pt) (td := td) (wy := wy) (xs := xs) (xt := xt) (xa := xa) (s := s) (e := e) (f := 4) (he := (by omega)) (hf := (by omega)) H.size) (cwV 2 hts gX8_counts_X8_en rfl rfl rfl hdX8_en ⟨Nat.le_of_ble_eq_true rfl, Nat.le_of_ble_eq_true rfl⟩) (preVR hK hN hP [0, 1] rfl 0 rfl rfl [.int (nI e), .int (nI 4)]) rfl rfl hl.1 rfl (lv_room (Nat.le_of_ble_eq_true rfl)) dX8_counts_64 ⟨Nat.le_refl _, Nat.le_refl _⟩) hP hS hA (fun H locs hP hS => ?_)
      refine r_top (show (s (5 + 7 * e + 4)) = (iI (am s e)) from am_iI s e) ?_
      refine r_imul_z hx hb (nI_iI _) rfl dX8_counts_67 ?_
      refine r_iadd_z hx hb rfl rfl dX8_counts_68 ?_
      refine r_iast_n hx hb hK hP hD hS 2 rfl (k := (a2 s e)) (by omega) (by omega) dX8_counts_69 (fun H locs hP hD hS => ?_)
      have hP : va_P dg vwCl [(m0, .inr (8, [.ref ms, .ref mw, .int xs, .ref mt, .int xt, .int xa, .ref su, .ref pt, .ref td, .ref wy])), (ms, .inl (tq.1, 1445, .inl s)), (su, .inl (tq.1, 6, .inl (upd (upd f (a1 s e) (iI ((v (a1 s e)) - (((1 : Nat) : Int) * (am s e))))) (a2 s e) (iI ((v (a2 s e)) + (((1 : Nat) : Int) * (am s e)))))))] H := hP
      have hD : va_D AA [(m0, .inr (8, [.ref ms, .ref mw, .int xs, .ref mt, .int xt, .int xa, .ref su, .ref pt, .ref td, .ref wy])), (ms, .inl (tq.1, 1445, .inl s)), (su, .inl (tq.1, 6, .inl (upd (upd f (a1 s e) (iI ((v (a1 s e)) - (((1 : Nat) : Int) * (am s e))))) (a2 s e) (iI ((v (a2 s e)) + (((1 : Nat) : Int) * (am s e)))))))] := hD
      exact hret ((upd (upd f (a1 s e) (iI ((v (a1 s e)) - (((1 : Nat) : Int) * (am s e))))) (a2 s e) (iI ((v (a2 s e)) + (((1 : Nat) : Int) * (am s e)))))) H locs _ ls (cnt_tt hV (tk_t (by omega)) c45 (h12 (tk_t (by omega))) (addV_hw1 s v e)) (hP.sub [0, 1, 2] rfl) (hD.sub [0, 1, 2] (by decide) rfl) hS dX8_counts_70
  · skip
    refine lv_iload_n hx hb dX8_counts_12 rfl (lv_at hl 0 rfl) ?_
    refine lv_iconst (v := (nI 3)) hx hb dX8_counts_13 (by decide) ?_
    refine r_icmp_ne (tgt := 39) hx hb rfl (nI_tI (by omega)) dX8_counts_14 (by decide) (fun c14 => ?_) (fun c14 => ?_)
    · skip
      refine lv_iload_n hx hb dX8_counts_39 rfl (lv_at hl 0 rfl) ?_
      refine lv_iconst (v := (nI 1)) hx hb dX8_counts_40 (by decide) ?_
      refine lv_iconst (v := (nI 3)) hx hb dX8_counts_41 (by decide) ?_
      refine call_x (va_runS (As := [.int (me s e 1), .int (nI 1), .int (nI 3)]) (rest := []) ⟨hx, hb, hml, hown, hts⟩ (kX8_in ln dg tq (v := (me s e 1)) (lo := (nI 1)) (hi := (nI 3)) H.size) (va_cwS 3 hts gX8_counts_X8_in rfl rfl rfl hdX8_in.2 ⟨Nat.le_of_ble_eq_true rfl, Nat.le_of_ble_eq_true rfl⟩) (preS0 hK hN [.int (me s e 1), .int (nI 1), .int (nI 3)]) rfl rfl hl.1 rfl (lv_room (Nat.le_of_ble_eq_true rfl)) dX8_counts_42 ⟨Nat.le_refl _, Nat.le_refl _⟩) hP hS hA (fun H locs hP hS => ?_)
      refine r_top (show (bI (inR (me s e 1) (nI 1) (nI 3))) = (bI (bg s e)) from congrArg bI (bg_in s e)) ?_
      refine r_if_eq_b (tgt := 70) hx hb dX8_counts_45 (by decide) (fun c45 => ?_) (fun c45 => ?_)
      · skip
        exact hret (f) H locs _ ls (cnt_ff hV (tk_f (by omega)) c45 (addV_hw1 s v e)) (hP.sub [0, 1, 2] rfl) (hD.sub [0, 1, 2] (by decide) rfl) hS dX8_counts_70
      · skip
        refine lv_aload_n hx hb dX8_counts_48 rfl (lv_at hl 1 rfl) ?_
        refine va_get (D := dg) (ci := 8) (v := .ref su) (C := RX8) (T := TX8) (N := 10) hx hb hts in8 hown hK hP 0 rfl rfl 6 (by decide) f20 (fun _ h9 => h9) rfl dX8_counts_49 ?_
        refine lv_aload_n hx hb dX8_counts_52 rfl (lv_at hl 1 rfl) ?_
        refine lv_iload_n hx hb dX8_counts_53 rfl (lv_at hl 2 rfl) ?_
        refine lv_iconst (v := (nI 3)) hx hb dX8_counts_54 (by decide) ?_
        refine call_x (va_runV (As := [.int (nI e), .int (nI 3)]) (rest := [.ref su]) ⟨hx, hb, hml, hown, hts⟩ (kX8_en ln dg tq (m0 := m0) (ms := ms) (mw := mw) (mt := mt) (su := su) (pt := pt) (td := td) (wy := wy) (xs := xs) (xt := xt) (xa := xa) (s := s) (e := e) (f := 3) (he := (by omega)) (hf := (by omega)) H.size) (cwV 2 hts gX8_counts_X8_en rfl rfl rfl hdX8_en ⟨Nat.le_of_ble_eq_true rfl, Nat.le_of_ble_eq_true rfl⟩) (preVR hK hN hP [0, 1] rfl 0 rfl rfl [.int (nI e), .int (nI 3)]) rfl rfl hl.1 rfl (lv_room (Nat.le_of_ble_eq_true rfl)) dX8_counts_55 ⟨Nat.le_refl _, Nat.le_refl _⟩) hP hS hA (fun H locs hP hS => ?_)
        refine r_top (show (s (5 + 7 * e + 3)) = (nI (a2 s e)) from (hW.e (e := e) (by omega)).2.2.2.1) ?_
        refine lv_dup2_11 hx hb dX8_counts_58 rfl rfl ?_
        refine r_iald_n hx hb hK hP 2 rfl (k := (a2 s e)) (by omega) (by omega) dX8_counts_59 ?_
        refine r_top (show (f (a2 s e)) = (iI (v (a2 s e))) from hV _ h2l) ?_
        refine lv_iload_n hx hb dX8_counts_60 rfl (lv_at hl 3 rfl) ?_
        refine lv_aload_n hx hb dX8_counts_61 rfl (lv_at hl 1 rfl) ?_
        refine lv_iload_n hx hb dX8_counts_62 rfl (lv_at hl 2 rfl) ?_
        refine lv_iconst (v := (nI 4)) hx hb dX8_counts_63 (by decide) ?_
        refine call_x (va_runV (As := [.int (nI e), .int (nI 4)]) (rest := [.int (nI 1), .int (iI (v (a2 s e))), .int (nI (a2 s e)), .ref su]) ⟨hx, hb, hml, hown, hts⟩ (kX8_en ln dg tq (m0 := m0) (ms := ms) (mw := mw) (mt := mt) (su := su) (pt := pt) (td := td) (wy := wy) (xs := xs) (xt := xt) (xa := xa) (s := s) (e := e) (f := 4) (he := (by omega)) (hf := (by omega)) H.size) (cwV 2 hts gX8_counts_X8_en rfl rfl rfl hdX8_en ⟨Nat.le_of_ble_eq_true rfl, Nat.le_of_ble_eq_true rfl⟩) (preVR hK hN hP [0, 1] rfl 0 rfl rfl [.int (nI e), .int (nI 4)]) rfl rfl hl.1 rfl (lv_room (Nat.le_of_ble_eq_true rfl)) dX8_counts_64 ⟨Nat.le_refl _, Nat.le_refl _⟩) hP hS hA (fun H locs hP hS => ?_)
        refine r_top (show (s (5 + 7 * e + 4)) = (iI (am s e)) from am_iI s e) ?_
        refine r_imul_z hx hb (nI_iI _) rfl dX8_counts_67 ?_
        refine r_iadd_z hx hb rfl rfl dX8_counts_68 ?_
        refine r_iast_n hx hb hK hP hD hS 2 rfl (k := (a2 s e)) (by omega) (by omega) dX8_counts_69 (fun H locs hP hD hS => ?_)
        have hP : va_P dg vwCl [(m0, .inr (8, [.ref ms, .ref mw, .int xs, .ref mt, .int xt, .int xa, .ref su, .ref pt, .ref td, .ref wy])), (ms, .inl (tq.1, 1445, .inl s)), (su, .inl (tq.1, 6, .inl (upd f (a2 s e) (iI ((v (a2 s e)) + (((1 : Nat) : Int) * (am s e)))))))] H := hP
        have hD : va_D AA [(m0, .inr (8, [.ref ms, .ref mw, .int xs, .ref mt, .int xt, .int xa, .ref su, .ref pt, .ref td, .ref wy])), (ms, .inl (tq.1, 1445, .inl s)), (su, .inl (tq.1, 6, .inl (upd f (a2 s e) (iI ((v (a2 s e)) + (((1 : Nat) : Int) * (am s e)))))))] := hD
        exact hret ((upd f (a2 s e) (iI ((v (a2 s e)) + (((1 : Nat) : Int) * (am s e)))))) H locs _ ls (cnt_ft hV (tk_f (by omega)) c45 (addV_hw1 s v e)) (hP.sub [0, 1, 2] rfl) (hD.sub [0, 1, 2] (by decide) rfl) hS dX8_counts_70
    · skip
      refine lv_aload_n hx hb dX8_counts_17 rfl (lv_at hl 1 rfl) ?_
      refine va_get (D := dg) (ci := 8) (v := .ref su) (C := RX8) (T := TX8) (N := 10) hx hb hts in8 hown hK hP 0 rfl rfl 6 (by decide) f20 (fun _ h9 => h9) rfl dX8_counts_18 ?_
      refine lv_aload_n hx hb dX8_counts_21 rfl (lv_at hl 1 rfl) ?_
      refine lv_iload_n hx hb dX8_counts_22 rfl (lv_at hl 2 rfl) ?_
      refine lv_iconst (v := (nI 2)) hx hb dX8_counts_23 (by decide) ?_
      refine call_x (va_runV (As := [.int (nI e), .int (nI 2)]) (rest := [.ref su]) ⟨hx, hb, hml, hown, hts⟩ (kX8_en ln dg tq (m0 := m0) (ms := ms) (mw := mw) (mt := mt) (su := su) (pt := pt) (td := td) (wy := wy) (xs := xs) (xt := xt) (xa := xa) (s := s) (e := e) (f := 2) (he := (by omega)) (hf := (by omega)) H.size) (cwV 2 hts gX8_counts_X8_en rfl rfl rfl hdX8_en ⟨Nat.le_of_ble_eq_true rfl, Nat.le_of_ble_eq_true rfl⟩) (preVR hK hN hP [0, 1] rfl 0 rfl rfl [.int (nI e), .int (nI 2)]) rfl rfl hl.1 rfl (lv_room (Nat.le_of_ble_eq_true rfl)) dX8_counts_24 ⟨Nat.le_refl _, Nat.le_refl _⟩) hP hS hA (fun H locs hP hS => ?_)
      refine r_top (show (s (5 + 7 * e + 2)) = (nI (a1 s e)) from (hW.e (e := e) (by omega)).2.1) ?_
      refine lv_dup2_11 hx hb dX8_counts_27 rfl rfl ?_
      refine r_iald_n hx hb hK hP 2 rfl (k := (a1 s e)) (by omega) (by omega) dX8_counts_28 ?_
      refine r_top (show (f (a1 s e)) = (iI (v (a1 s e))) from hV _ h1l) ?_
      refine lv_iload_n hx hb dX8_counts_29 rfl (lv_at hl 3 rfl) ?_
      refine lv_aload_n hx hb dX8_counts_30 rfl (lv_at hl 1 rfl) ?_
      refine lv_iload_n hx hb dX8_counts_31 rfl (lv_at hl 2 rfl) ?_
      refine lv_iconst (v := (nI 4)) hx hb dX8_counts_32 (by decide) ?_
      refine call_x (va_runV (As := [.int (nI e), .int (nI 4)]) (rest := [.int (nI 1), .int (iI (v (a1 s e))), .int (nI (a1 s e)), .ref su]) ⟨hx, hb, hml, hown, hts⟩ (kX8_en ln dg tq (m0 := m0) (ms := ms) (mw := mw) (mt := mt) (su := su) (pt := pt) (td := td) (wy := wy) (xs := xs) (xt := xt) (xa := xa) (s := s) (e := e) (f := 4) (he := (by omega)) (hf := (by omega)) H.size) (cwV 2 hts gX8_counts_X8_en rfl rfl rfl hdX8_en ⟨Nat.le_of_ble_eq_true rfl, Nat.le_of_ble_eq_true rfl⟩) (preVR hK hN hP [0, 1] rfl 0 rfl rfl [.int (nI e), .int (nI 4)]) rfl rfl hl.1 rfl (lv_room (Nat.le_of_ble_eq_true rfl)) dX8_counts_33 ⟨Nat.le_refl _, Nat.le_refl _⟩) hP hS hA (fun H locs hP hS => ?_)
      refine r_top (show (s (5 + 7 * e + 4)) = (iI (am s e)) from am_iI s e) ?_
      refine r_imul_z hx hb (nI_iI _) rfl dX8_counts_36 ?_
      refine r_isub_z hx hb rfl rfl dX8_counts_37 ?_
      refine r_iast_n hx hb hK hP hD hS 2 rfl (k := (a1 s e)) (by omega) (by omega) dX8_counts_38 (fun H locs hP hD hS => ?_)
      have hP : va_P dg vwCl [(m0, .inr (8, [.ref ms, .ref mw, .int xs, .ref mt, .int xt, .int xa, .ref su, .ref pt, .ref td, .ref wy])), (ms, .inl (tq.1, 1445, .inl s)), (su, .inl (tq.1, 6, .inl (upd f (a1 s e) (iI ((v (a1 s e)) - (((1 : Nat) : Int) * (am s e)))))))] H := hP
      have hD : va_D AA [(m0, .inr (8, [.ref ms, .ref mw, .int xs, .ref mt, .int xt, .int xa, .ref su, .ref pt, .ref td, .ref wy])), (ms, .inl (tq.1, 1445, .inl s)), (su, .inl (tq.1, 6, .inl (upd f (a1 s e) (iI ((v (a1 s e)) - (((1 : Nat) : Int) * (am s e)))))))] := hD
      refine lv_iload_n hx hb dX8_counts_39 rfl (lv_at hl 0 rfl) ?_
      refine lv_iconst (v := (nI 1)) hx hb dX8_counts_40 (by decide) ?_
      refine lv_iconst (v := (nI 3)) hx hb dX8_counts_41 (by decide) ?_
      refine call_x (va_runS (As := [.int (me s e 1), .int (nI 1), .int (nI 3)]) (rest := []) ⟨hx, hb, hml, hown, hts⟩ (kX8_in ln dg tq (v := (me s e 1)) (lo := (nI 1)) (hi := (nI 3)) H.size) (va_cwS 3 hts gX8_counts_X8_in rfl rfl rfl hdX8_in.2 ⟨Nat.le_of_ble_eq_true rfl, Nat.le_of_ble_eq_true rfl⟩) (preS0 hK hN [.int (me s e 1), .int (nI 1), .int (nI 3)]) rfl rfl hl.1 rfl (lv_room (Nat.le_of_ble_eq_true rfl)) dX8_counts_42 ⟨Nat.le_refl _, Nat.le_refl _⟩) hP hS hA (fun H locs hP hS => ?_)
      refine r_top (show (bI (inR (me s e 1) (nI 1) (nI 3))) = (bI (bg s e)) from congrArg bI (bg_in s e)) ?_
      refine r_if_eq_b (tgt := 70) hx hb dX8_counts_45 (by decide) (fun c45 => ?_) (fun c45 => ?_)
      · skip
        exact hret ((upd f (a1 s e) (iI ((v (a1 s e)) - (((1 : Nat) : Int) * (am s e)))))) H locs _ ls (cnt_tf hV (tk_t (by omega)) c45 (addV_hw1 s v e)) (hP.sub [0, 1, 2] rfl) (hD.sub [0, 1, 2] (by decide) rfl) hS dX8_counts_70
      · skip
        refine lv_aload_n hx hb dX8_counts_48 rfl (lv_at hl 1 rfl) ?_
        refine va_get (D := dg) (ci := 8) (v := .ref su) (C := RX8) (T := TX8) (N := 10) hx hb hts in8 hown hK hP 0 rfl rfl 6 (by decide) f20 (fun _ h9 => h9) rfl dX8_counts_49 ?_
        refine lv_aload_n hx hb dX8_counts_52 rfl (lv_at hl 1 rfl) ?_
        refine lv_iload_n hx hb dX8_counts_53 rfl (lv_at hl 2 rfl) ?_
        refine lv_iconst (v := (nI 3)) hx hb dX8_counts_54 (by decide) ?_
        refine call_x (va_runV (As := [.int (nI e), .int (nI 3)]) (rest := [.ref su]) ⟨hx, hb, hml, hown, hts⟩ (kX8_en ln dg tq (m0 := m0) (ms := ms) (mw := mw) (mt := mt) (su := su) (pt := pt) (td := td) (wy := wy) (xs := xs) (xt := xt) (xa := xa) (s := s) (e := e) (f := 3) (he := (by omega)) (hf := (by omega)) H.size) (cwV 2 hts gX8_counts_X8_en rfl rfl rfl hdX8_en ⟨Nat.le_of_ble_eq_true rfl, Nat.le_of_ble_eq_true rfl⟩) (preVR hK hN hP [0, 1] rfl 0 rfl rfl [.int (nI e), .int (nI 3)]) rfl rfl hl.1 rfl (lv_room (Nat.le_of_ble_eq_true rfl)) dX8_counts_55 ⟨Nat.le_refl _, Nat.le_refl _⟩) hP hS hA (fun H locs hP hS => ?_)
        refine r_top (show (s (5 + 7 * e + 3)) = (nI (a2 s e)) from (hW.e (e := e) (by omega)).2.2.2.1) ?_
        refine lv_dup2_11 hx hb dX8_counts_58 rfl rfl ?_
        refine r_iald_n hx hb hK hP 2 rfl (k := (a2 s e)) (by omega) (by omega) dX8_counts_59 ?_
        refine r_top (show ((upd f (a1 s e) (iI ((v (a1 s e)) - (((1 : Nat) : Int) * (am s e))))) (a2 s e)) = (iI (v (a2 s e))) from by rw [pk_un (Ne.symm (h12 (tk_t (by omega))))]; exact hV _ h2l) ?_
        refine lv_iload_n hx hb dX8_counts_60 rfl (lv_at hl 3 rfl) ?_
        refine lv_aload_n hx hb dX8_counts_61 rfl (lv_at hl 1 rfl) ?_
        refine lv_iload_n hx hb dX8_counts_62 rfl (lv_at hl 2 rfl) ?_
        refine lv_iconst (v := (nI 4)) hx hb dX8_counts_63 (by decide) ?_
        refine call_x (va_runV (As := [.int (nI e), .int (nI 4)]) (rest := [.int (nI 1), .int (iI (v (a2 s e))), .int (nI (a2 s e)), .ref su]) ⟨hx, hb, hml, hown, hts⟩ (kX8_en ln dg tq (m0 := m0) (ms := ms) (mw := mw) (mt := mt) (su := su) (pt := pt) (td := td) (wy := wy) (xs := xs) (xt := xt) (xa := xa) (s := s) (e := e) (f := 4) (he := (by omega)) (hf := (by omega)) H.size) (cwV 2 hts gX8_counts_X8_en rfl rfl rfl hdX8_en ⟨Nat.le_of_ble_eq_true rfl, Nat.le_of_ble_eq_true rfl⟩) (preVR hK hN hP [0, 1] rfl 0 rfl rfl [.int (nI e), .int (nI 4)]) rfl rfl hl.1 rfl (lv_room (Nat.le_of_ble_eq_true rfl)) dX8_counts_64 ⟨Nat.le_refl _, Nat.le_refl _⟩) hP hS hA (fun H locs hP hS => ?_)
        refine r_top (show (s (5 + 7 * e + 4)) = (iI (am s e)) from am_iI s e) ?_
        refine r_imul_z hx hb (nI_iI _) rfl dX8_counts_67 ?_
        refine r_iadd_z hx hb rfl rfl dX8_counts_68 ?_
        refine r_iast_n hx hb hK hP hD hS 2 rfl (k := (a2 s e)) (by omega) (by omega) dX8_counts_69 (fun H locs hP hD hS => ?_)
        have hP : va_P dg vwCl [(m0, .inr (8, [.ref ms, .ref mw, .int xs, .ref mt, .int xt, .int xa, .ref su, .ref pt, .ref td, .ref wy])), (ms, .inl (tq.1, 1445, .inl s)), (su, .inl (tq.1, 6, .inl (upd (upd f (a1 s e) (iI ((v (a1 s e)) - (((1 : Nat) : Int) * (am s e))))) (a2 s e) (iI ((v (a2 s e)) + (((1 : Nat) : Int) * (am s e)))))))] H := hP
        have hD : va_D AA [(m0, .inr (8, [.ref ms, .ref mw, .int xs, .ref mt, .int xt, .int xa, .ref su, .ref pt, .ref td, .ref wy])), (ms, .inl (tq.1, 1445, .inl s)), (su, .inl (tq.1, 6, .inl (upd (upd f (a1 s e) (iI ((v (a1 s e)) - (((1 : Nat) : Int) * (am s e))))) (a2 s e) (iI ((v (a2 s e)) + (((1 : Nat) : Int) * (am s e)))))))] := hD
        exact hret ((upd (upd f (a1 s e) (iI ((v (a1 s e)) - (((1 : Nat) : Int) * (am s e))))) (a2 s e) (iI ((v (a2 s e)) + (((1 : Nat) : Int) * (am s e)))))) H locs _ ls (cnt_tt hV (tk_t (by omega)) c45 (h12 (tk_t (by omega))) (addV_hw1 s v e)) (hP.sub [0, 1, 2] rfl) (hD.sub [0, 1, 2] (by decide) rfl) hS dX8_counts_70
set_option maxHeartbeats 4000000 in
set_option maxRecDepth 100000 in
theorem kX8_balances__g (ln : Launch) (dg : va_G) (tq : ClassId × ClassId) (m0 ms mw mt su pt td wy : Nat) (xs xt xa : Int32) (s f : Row) (hW : WG s) (y : Nat) (hy : y < nE s) : MV ln yX8_balances wsX8_balances (rmm 2 45) dg tq [.ref m0, .int (nI y)] [(m0, .inr (8, [.ref ms, .ref mw, .int xs, .ref mt, .int xt, .int xa, .ref su, .ref pt, .ref td, .ref wy])), (ms, .inl (tq.1, 1445, .inl s)), (su, .inl (tq.1, 6, .inl f))] (fun (u : Row) => SV u (bal s y)) (fun u => [(m0, .inr (8, [.ref ms, .ref mw, .int xs, .ref mt, .int xt, .int xa, .ref su, .ref pt, .ref td, .ref wy])), (ms, .inl (tq.1, 1445, .inl s)), (su, .inl (tq.1, 6, .inl u))]) := by
  refine MV.enter cX8_balances 3 (by decide) rfl rfl (Nat.le_of_ble_eq_true rfl) ?_
  intro pP eE sS mM aA bB mT cC QQ AA hA hAT hret H locs hP hD hS ls hl
  obtain ⟨hx, hb, hml, hown, hts, hK, hN⟩ := hAT
  have hown : sS.vm.findClass RX8 = some mM.cls := hown
  have hl : lv_has ls 3 [(0, .ref m0), (1, .int (nI y))] := hl
  have in8 : ∀ w ∈ u_ws RX8 TX8 10, w ∈ wsX8_balances := (fun _ h9 => List.mem_cons_of_mem _ (List.mem_append_right _ h9))
  have f20 := hts (.fieldLink RX8 20 "OrphanChainModel" "sums" "[I") (List.mem_of_getElem? (i := 1) rfl)
  have hn60 := hW.n60
  refine lv_iconst (v := (nI 0)) hx hb dX8_balances_0 (by decide) ?_
  refine lv_istore_n (lv' := [(2, .int (nI 0)), (0, .ref m0), (1, .int (nI y))]) hx hb dX8_balances_1 rfl hl (by decide) rfl (fun ls hl => ?_)
  have loop2 : ∀ (fu : Nat) (i_ : Nat) (f_ : Row) (H : Heap) (locs : List Loc) (ls : Array Slot), (i_ ≤ 6 ∧ (∀ a, a < i_ → f_ a = nI 0)) → 6 - i_ < fu → va_P dg vwCl [(m0, .inr (8, [.ref ms, .ref mw, .int xs, .ref mt, .int xt, .int xa, .ref su, .ref pt, .ref td, .ref wy])), (ms, .inl (tq.1, 1445, .inl s)), (su, .inl (tq.1, 6, .inl f_))] H → va_D AA [(m0, .inr (8, [.ref ms, .ref mw, .int xs, .ref mt, .int xt, .int xa, .ref su, .ref pt, .ref td, .ref wy])), (ms, .inl (tq.1, 1445, .inl s)), (su, .inl (tq.1, 6, .inl f_))] → va_S AA sS.heap H locs → lv_has ls 3 [(0, .ref m0), (1, .int (nI y)), (2, .int (nI i_))] → W pP ln eE (rmm 2 45) sS mM aA bB mT cC H locs 0 0 QQ (F0 mM 2 ls []) := by
    intro fu
    induction fu with
    | zero => intro i_ f_ H locs ls _ hm; exact absurd hm (Nat.not_lt_zero _)
    | succ fu ih2 =>
      intro i_ f_ H locs ls hinv hm hP hD hS hl
      obtain ⟨hi1, hi2⟩ := hinv
      refine lv_iload_n hx hb dX8_balances_2 rfl (lv_at hl 2 rfl) ?_
      refine lv_bipush (v := (nI 6)) hx hb dX8_balances_3 (by decide) ?_
      refine r_icmp_ge (tgt := 21) hx hb (nI_tI (by omega)) (nI_tI (by omega)) dX8_balances_5 (by decide) (fun c5 => ?_) (fun c5 => ?_)
      · skip
        refine lv_iload_n hx hb dX8_balances_21 rfl (lv_at hl 1 rfl) ?_
        refine lv_istore_n (lv' := [(2, .int (nI y)), (0, .ref m0), (1, .int (nI y))]) hx hb dX8_balances_22 rfl hl (by decide) rfl (fun ls hl => ?_)
        have loop23 : ∀ (fu : Nat) (at_ : Nat) (g_ : Row) (v_ : Nat → Int) (H : Heap) (locs : List Loc) (ls : Array Slot), (at_ ≤ y ∧ SV g_ v_ ∧ (∀ a, v_ a + bal s at_ a = bal s y a)) → at_ < fu → va_P dg vwCl [(m0, .inr (8, [.ref ms, .ref mw, .int xs, .ref mt, .int xt, .int xa, .ref su, .ref pt, .ref td, .ref wy])), (ms, .inl (tq.1, 1445, .inl s)), (su, .inl (tq.1, 6, .inl g_))] H → va_D AA [(m0, .inr (8, [.ref ms, .ref mw, .int xs, .ref mt, .int xt, .int xa, .ref su, .ref pt, .ref td, .ref wy])), (ms, .inl (tq.1, 1445, .inl s)), (su, .inl (tq.1, 6, .inl g_))] → va_S AA sS.heap H locs → lv_has ls 3 [(0, .ref m0), (1, .int (nI y)), (2, .int (nI at_))] → W pP ln eE (rmm 2 45) sS mM aA bB mT cC H locs 0 0 QQ (F0 mM 23 ls []) := by
          intro fu
          induction fu with
          | zero => intro at_ g_ v_ H locs ls _ hm; exact absurd hm (Nat.not_lt_zero _)
          | succ fu ih23 =>
            intro at_ g_ v_ H locs ls hinv hm hP hD hS hl
            obtain ⟨hj1, hV, hj3⟩ := hinv
            refine lv_iload_n hx hb dX8_balances_23 rfl (lv_at hl 2 rfl) ?_
            refine r_if_le (tgt := 43) hx hb (nI_tI (by omega)) dX8_balances_24 (by decide) (fun c24 => ?_) (fun c24 => ?_)
            · skip
              exact hret (g_) H locs _ ls (fun a ha => by rw [hV a ha]; congr 1; have h1 := hj3 a; rw [show at_ = 0 by omega, bal_0] at h1; omega) (hP.sub [0, 1, 2] rfl) (hD.sub [0, 1, 2] (by decide) rfl) hS dX8_balances_43
            · skip
              refine lv_aload_n hx hb dX8_balances_27 rfl (lv_at hl 0 rfl) ?_
              refine lv_iload_n hx hb dX8_balances_28 rfl (lv_at hl 2 rfl) ?_
              refine lv_iconst (v := (nI 1)) hx hb dX8_balances_29 (by decide) ?_
              refine call_v (wr := []) (va_runV (As := [.int (nI at_), .int (nI 1)]) (rest := []) ⟨hx, hb, hml, hown, hts⟩ (kX8_counts__g ln dg tq (m0 := m0) (ms := ms) (mw := mw) (mt := mt) (su := su) (pt := pt) (td := td) (wy := wy) (xs := xs) (xt := xt) (xa := xa) (s := s) (f := g_) (hW := hW) (v := v_) (hV := (by omega)) (e := at_) (he := (by omega)) H.size) (cwV 2 hts gX8_balances_X8_counts rfl rfl rfl hdX8_counts ⟨Nat.le_of_ble_eq_true rfl, Nat.le_of_ble_eq_true rfl⟩) (preVB hK hN hP hD [0, 1, 2] rfl rfl rfl 0 rfl rfl [.int (nI at_), .int (nI 1)]) rfl rfl hl.1 rfl (lv_room (Nat.le_of_ble_eq_true rfl)) dX8_balances_30 ⟨Nat.le_refl _, Nat.le_refl _⟩) hP hD hS hA [0, 1, 2] [] rfl rfl (by decide) (by decide) (fun u30 H locs hw30 hP hD hS => ?_)
              obtain ⟨g30, rfl⟩ : ∃ z, z = u30 := ⟨_, rfl⟩
              have hP : va_P dg vwCl [(m0, .inr (8, [.ref ms, .ref mw, .int xs, .ref mt, .int xt, .int xa, .ref su, .ref pt, .ref td, .ref wy])), (ms, .inl (tq.1, 1445, .inl s)), (su, .inl (tq.1, 6, .inl g30))] H := hP
              have hD : va_D AA [(m0, .inr (8, [.ref ms, .ref mw, .int xs, .ref mt, .int xt, .int xa, .ref su, .ref pt, .ref td, .ref wy])), (ms, .inl (tq.1, 1445, .inl s)), (su, .inl (tq.1, 6, .inl g30))] := hD
              refine lv_aload_n hx hb dX8_balances_33 rfl (lv_at hl 0 rfl) ?_
              refine lv_iload_n hx hb dX8_balances_34 rfl (lv_at hl 2 rfl) ?_
              refine lv_iconst (v := (nI 0)) hx hb dX8_balances_35 (by decide) ?_
              refine call_x (va_runV (As := [.int (nI at_), .int (nI 0)]) (rest := []) ⟨hx, hb, hml, hown, hts⟩ (kX8_en ln dg tq (m0 := m0) (ms := ms) (mw := mw) (mt := mt) (su := su) (pt := pt) (td := td) (wy := wy) (xs := xs) (xt := xt) (xa := xa) (s := s) (e := at_) (f := 0) (he := (by omega)) (hf := (by omega)) H.size) (cwV 2 hts gX8_balances_X8_en rfl rfl rfl hdX8_en ⟨Nat.le_of_ble_eq_true rfl, Nat.le_of_ble_eq_true rfl⟩) (preVR hK hN hP [0, 1] rfl 0 rfl rfl [.int (nI at_), .int (nI 0)]) rfl rfl hl.1 rfl (lv_room (Nat.le_of_ble_eq_true rfl)) dX8_balances_36 ⟨Nat.le_refl _, Nat.le_refl _⟩) hP hS hA (fun H locs hP hS => ?_)
              refine r_top (show (s (5 + 7 * at_ + 0)) = (nI (pa s at_)) from hW.p (by omega) (by omega)) ?_
              refine lv_istore_n (lv' := [(2, .int (nI (pa s at_))), (0, .ref m0), (1, .int (nI y))]) hx hb dX8_balances_39 rfl hl (by decide) rfl (fun ls hl => ?_)
              refine lv_goto (tgt := 23) hx hb dX8_balances_40 (by decide) ?_
              exact ih23 (pa s at_) g30 (addV s v_ at_) H locs ls (⟨by have hpl := hW.pl (e := at_) (by omega) (by omega); omega, hw30, fun a => by have h1 := hj3 a; have h2 := hW.bs (e := at_) (by omega) (by omega) a; unfold addV; omega⟩) (by have hpl := hW.pl (e := at_) (by omega) (by omega); omega) (hP.sub [0, 1, 2] rfl) (hD.sub [0, 1, 2] (by decide) rfl) hS (lv_sub hl [1, 2, 0] rfl)
        exact loop23 _ y f_ (fun _ => 0) H locs ls (⟨by omega, SV_0 (fun a ha => hi2 a (by omega)), fun a => by omega⟩) (Nat.lt_succ_self _) (hP.sub [0, 1, 2] rfl) (hD.sub [0, 1, 2] (by decide) rfl) hS (lv_sub hl [1, 2, 0] rfl)
      · skip
        refine lv_aload_n hx hb dX8_balances_8 rfl (lv_at hl 0 rfl) ?_
        refine va_get (D := dg) (ci := 8) (v := .ref su) (C := RX8) (T := TX8) (N := 10) hx hb hts in8 hown hK hP 0 rfl rfl 6 (by decide) f20 (fun _ h9 => h9) rfl dX8_balances_9 ?_
        refine lv_iload_n hx hb dX8_balances_12 rfl (lv_at hl 2 rfl) ?_
        refine lv_iconst (v := (nI 0)) hx hb dX8_balances_13 (by decide) ?_
        refine r_iast_n hx hb hK hP hD hS 2 rfl (k := i_) (by omega) (by omega) dX8_balances_14 (fun H locs hP hD hS => ?_)
        have hP : va_P dg vwCl [(m0, .inr (8, [.ref ms, .ref mw, .int xs, .ref mt, .int xt, .int xa, .ref su, .ref pt, .ref td, .ref wy])), (ms, .inl (tq.1, 1445, .inl s)), (su, .inl (tq.1, 6, .inl (upd f_ i_ (nI 0))))] H := hP
        have hD : va_D AA [(m0, .inr (8, [.ref ms, .ref mw, .int xs, .ref mt, .int xt, .int xa, .ref su, .ref pt, .ref td, .ref wy])), (ms, .inl (tq.1, 1445, .inl s)), (su, .inl (tq.1, 6, .inl (upd f_ i_ (nI 0))))] := hD
        refine lv_iinc (v := (nI (i_ + 1))) (lv' := [(2, .int (nI (i_ + 1))), (0, .ref m0), (1, .int (nI y))]) hx hb dX8_balances_15 hl (k := 2) rfl (nI_add _ _) (by decide) rfl (fun ls hl => ?_)
        refine lv_goto (tgt := 2) hx hb dX8_balances_18 (by decide) ?_
        exact ih2 (i_ + 1) (upd f_ i_ (nI 0)) H locs ls (⟨by omega, fun a h => by by_cases e0 : a = i_; (rw [e0, pk_us]); (rw [pk_un e0]; exact hi2 a (by omega))⟩) (by omega) (hP.sub [0, 1, 2] rfl) (hD.sub [0, 1, 2] (by decide) rfl) hS (lv_sub hl [1, 2, 0] rfl)
  exact loop2 _ 0 f H locs ls (⟨by omega, fun a h => absurd h (Nat.not_lt_zero a)⟩) (Nat.lt_succ_self _) (hP.sub [0, 1, 2] rfl) (hD.sub [0, 1, 2] (by decide) rfl) hS (lv_sub hl [1, 2, 0] rfl)
theorem hdX8_relink : yX8_relink.cls = RX8 ∧ yX8_relink.cls ≠ "java/lang/invoke/MethodHandle" ∧ yX8_relink.cls ≠ "java/lang/invoke/VarHandle" ∧ (parseMethodDescriptor yX8_relink.desc).map (fun d => d.parameters.length) = some 1 := by decide +kernel
set_option maxHeartbeats 4000000 in
set_option maxRecDepth 100000 in
theorem kX8_relink (ln : Launch) (dg : va_G) (tq : ClassId × ClassId) (m0 ms mw mt su pt td wy : Nat) (xt xa : Int32) (st : Nat) (hst : st ≤ 5) (s was : Row) (hW : WF s) (x : Int32) : MW ln yX8_relink wsX8_relink (rmm 2 45) dg tq [.ref m0, .int x] [(m0, .inr (8, [.ref ms, .ref mw, .int (nI st), .ref mt, .int xt, .int xa, .ref su, .ref pt, .ref td, .ref wy])), (ms, .inl (tq.1, 1445, .inl s)), (mw, .inl (tq.1, 7225, .inl was))] (fun (r : Int32) (u : Row × Row × Nat) => r = (rkR s x) ∧ (MACT s was st (hasN x (nE s)) (rkS s x) u.1 u.2.1 u.2.2)) (fun u => [(m0, .inr (8, [.ref ms, .ref mw, .int (nI u.2.2), .ref mt, .int xt, .int xa, .ref su, .ref pt, .ref td, .ref wy])), (ms, .inl (tq.1, 1445, .inl u.1)), (mw, .inl (tq.1, 7225, .inl u.2.1))]) := by
  refine MW.enter cX8_relink 5 .int (by decide) rfl rfl (Nat.le_of_ble_eq_true rfl) ?_
  intro pP eE sS mM aA bB mT cC QQ AA hA hAT hret H locs hP hD hS ls hl
  obtain ⟨hx, hb, hml, hown, hts, hK, hN⟩ := hAT
  have hown : sS.vm.findClass RX8 = some mM.cls := hown
  have hl : lv_has ls 5 [(0, .ref m0), (1, .int x)] := hl
  have in8 : ∀ w ∈ u_ws RX8 TX8 10, w ∈ wsX8_relink := (fun _ h9 => List.mem_cons_of_mem _ (List.mem_append_right _ h9))
  have f7 := hts (.fieldLink RX8 7 "OrphanChainModel" "s" "[I") (List.mem_of_getElem? (i := 2) rfl)
  have k84 := hts (.constant RX8 84 (-100001)) (List.mem_of_getElem? (i := 1) rfl)
  have hn60 := hW.n60
  have hb10 := hW.b10
  have hs8 := hW.s8
  have hhn := hW.hn
  refine lv_aload_n hx hb dX8_relink_0 rfl (lv_at hl 0 rfl) ?_
  refine lv_iload_n hx hb dX8_relink_1 rfl (lv_at hl 1 rfl) ?_
  refine call_x (va_runV (As := [.int x]) (rest := []) ⟨hx, hb, hml, hown, hts⟩ (kX8_isEntry ln dg tq (m0 := m0) (ms := ms) (mw := mw) (mt := mt) (su := su) (pt := pt) (td := td) (wy := wy) (xs := (nI st)) (xt := xt) (xa := xa) (s := s) (hW := hW) (x := x) H.size) (cwV 1 hts gX8_relink_X8_isEntry rfl rfl rfl hdX8_isEntry ⟨Nat.le_of_ble_eq_true rfl, Nat.le_of_ble_eq_true rfl⟩) (preVR hK hN hP [0, 1] rfl 0 rfl rfl [.int x]) rfl rfl hl.1 rfl (lv_room (Nat.le_of_ble_eq_true rfl)) dX8_relink_2 ⟨Nat.le_refl _, Nat.le_refl _⟩) hP hS hA (fun H locs hP hS => ?_)
  refine r_if_ne_b (tgt := 11) hx hb dX8_relink_5 (by decide) (fun c5 => ?_) (fun c5 => ?_)
  · skip
    obtain ⟨ek_, hek, rfl⟩ := hasN_t c5
    refine lv_aload_n hx hb dX8_relink_11 rfl (lv_at hl 0 rfl) ?_
    refine call_v (wr := []) (va_runV (As := []) (rest := []) ⟨hx, hb, hml, hown, hts⟩ (kX8_records ln dg tq (m0 := m0) (ms := ms) (mw := mw) (mt := mt) (su := su) (pt := pt) (td := td) (wy := wy) (xt := xt) (xa := xa) (st := st) (hst := (by omega)) (s := s) (was := was) H.size) (cwV 0 hts gX8_relink_X8_records rfl rfl rfl hdX8_records ⟨Nat.le_of_ble_eq_true rfl, Nat.le_of_ble_eq_true rfl⟩) (preVB hK hN hP hD [0, 1, 2] rfl rfl rfl 0 rfl rfl []) rfl rfl hl.1 rfl (lv_room (Nat.le_of_ble_eq_true rfl)) dX8_relink_12 ⟨Nat.le_refl _, Nat.le_refl _⟩) hP hD hS hA [0, 1, 2] [] rfl rfl (by decide) (by decide) (fun u12 H locs hw12 hP hD hS => ?_)
    have hP : va_P dg vwCl [(m0, .inr (8, [.ref ms, .ref mw, .int (nI (recN st)), .ref mt, .int xt, .int xa, .ref su, .ref pt, .ref td, .ref wy])), (ms, .inl (tq.1, 1445, .inl s)), (mw, .inl (tq.1, 7225, .inl (recW was s st)))] H := hP
    have hD : va_D AA [(m0, .inr (8, [.ref ms, .ref mw, .int (nI (recN st)), .ref mt, .int xt, .int xa, .ref su, .ref pt, .ref td, .ref wy])), (ms, .inl (tq.1, 1445, .inl s)), (mw, .inl (tq.1, 7225, .inl (recW was s st)))] := hD
    refine lv_iconst (v := (nI 0)) hx hb dX8_relink_15 (by decide) ?_
    refine lv_istore_n (lv' := [(2, .int (nI 0)), (0, .ref m0), (1, .int (nI ek_))]) hx hb dX8_relink_16 rfl hl (by decide) rfl (fun ls hl => ?_)
    refine lv_iload_n hx hb dX8_relink_17 rfl (lv_at hl 2 rfl) ?_
    refine lv_istore_n (lv' := [(3, .int (nI ek_)), (2, .int (nI 0)), (0, .ref m0), (1, .int (nI ek_))]) hx hb dX8_relink_18 rfl hl (by decide) rfl (fun ls hl => ?_)
    have loop19 : ∀ (fu : Nat) (j_ : Nat) (n_ : Nat) (x_ : Row) (H : Heap) (locs : List Loc) (ls : Array Slot), (n_ = rlN s ek_ j_ ∧ ek_ + j_ ≤ nE s ∧ x_ = rlS s ek_ j_) → nE s - (ek_ + j_) < fu → va_P dg vwCl [(m0, .inr (8, [.ref ms, .ref mw, .int (nI (recN st)), .ref mt, .int xt, .int xa, .ref su, .ref pt, .ref td, .ref wy])), (ms, .inl (tq.1, 1445, .inl x_)), (mw, .inl (tq.1, 7225, .inl (recW was s st)))] H → va_D AA [(m0, .inr (8, [.ref ms, .ref mw, .int (nI (recN st)), .ref mt, .int xt, .int xa, .ref su, .ref pt, .ref td, .ref wy])), (ms, .inl (tq.1, 1445, .inl x_)), (mw, .inl (tq.1, 7225, .inl (recW was s st)))] → va_S AA sS.heap H locs → lv_has ls 5 [(0, .ref m0), (1, .int (nI ek_)), (2, .int (nI n_)), (3, .int (nI (ek_ + j_)))] → W pP ln eE (rmm 2 45) sS mM aA bB mT cC H locs 0 0 QQ (F0 mM 19 ls []) := by
      intro fu
      induction fu with
      | zero => intro j_ n_ x_ H locs ls _ hm; exact absurd hm (Nat.not_lt_zero _)
      | succ fu ih19 =>
        intro j_ n_ x_ H locs ls hinv hm hP hD hS hl
        obtain ⟨hi1, hi2, hi3⟩ := hinv
        obtain ⟨hW2, hSE, hA0, hA1⟩ := rl_inv8 hW (e := ek_) (j := j_) hi2
        rw [← hi3] at hW2 hSE hA0
        have eN : nE x_ = nE s := by unfold nE; rw [hA0]
        refine lv_iload_n hx hb dX8_relink_19 rfl (lv_at hl 3 rfl) ?_
        refine lv_aload_n hx hb dX8_relink_20 rfl (lv_at hl 0 rfl) ?_
        refine va_get (D := dg) (ci := 8) (v := .ref ms) (C := RX8) (T := TX8) (N := 10) hx hb hts in8 hown hK hP 0 rfl rfl 0 (by decide) f7 (fun _ h9 => h9) rfl dX8_relink_21 ?_
        refine lv_iconst (v := (nI 0)) hx hb dX8_relink_24 (by decide) ?_
        refine r_iald_n hx hb hK hP 1 rfl (k := 0) (by omega) (by omega) dX8_relink_25 ?_
        refine r_top (show (x_ 0) = (nI (nE s)) from hA0.trans hW.n) ?_
        refine r_icmp_ge (tgt := 80) hx hb (nI_tI (by omega)) (nI_tI (by omega)) dX8_relink_26 (by decide) (fun c26 => ?_) (fun c26 => ?_)
        · skip
          have ew : x_ = (rlS s ek_ (nE s - ek_)) := by rw [hi3, show nE s - ek_ = j_ by omega]
          have hP : va_P dg vwCl [(m0, .inr (8, [.ref ms, .ref mw, .int (nI (recN st)), .ref mt, .int xt, .int xa, .ref su, .ref pt, .ref td, .ref wy])), (ms, .inl (tq.1, 1445, .inl (rlS s ek_ (nE s - ek_)))), (mw, .inl (tq.1, 7225, .inl (recW was s st)))] H := by rw [← ew]; exact hP
          have hD : va_D AA [(m0, .inr (8, [.ref ms, .ref mw, .int (nI (recN st)), .ref mt, .int xt, .int xa, .ref su, .ref pt, .ref td, .ref wy])), (ms, .inl (tq.1, 1445, .inl (rlS s ek_ (nE s - ek_)))), (mw, .inl (tq.1, 7225, .inl (recW was s st)))] := by rw [← ew]; exact hD
          refine lv_iload_n hx hb dX8_relink_80 rfl (lv_at hl 2 rfl) ?_
          exact hret (nI n_) ((rlS s ek_ (nE s - ek_)), (recW was s st), (recN st)) H locs _ ls (show (nI n_) = (rkR s (nI ek_)) ∧ (MACT s was st (hasN (nI ek_) (nE s)) (rkS s (nI ek_)) (rlS s ek_ (nE s - ek_)) (recW was s st) (recN st)) from (⟨by unfold rkR; rw [c5, if_pos rfl, cl_n (show ek_ < 2147483648 by omega), hi1, show nE s - ek_ = j_ by omega], MACT.yes c5 (by unfold rkS; rw [cl_n (show ek_ < 2147483648 by omega)])⟩)) rfl (hP.sub [0, 1, 2] rfl) (hD.sub [0, 1, 2] (by decide) rfl) hS dX8_relink_81
        · skip
          refine lv_aload_n hx hb dX8_relink_29 rfl (lv_at hl 0 rfl) ?_
          refine lv_iload_n hx hb dX8_relink_30 rfl (lv_at hl 3 rfl) ?_
          refine call_x (va_runV (As := [.int (nI (ek_ + j_))]) (rest := []) ⟨hx, hb, hml, hown, hts⟩ (kX8_fitting ln dg tq (m0 := m0) (ms := ms) (mw := mw) (mt := mt) (su := su) (pt := pt) (td := td) (wy := wy) (xs := (nI (recN st))) (xt := xt) (xa := xa) (s := x_) (e := ek_ + j_) (p := pa x_ (ek_ + j_)) (he := (by omega)) (hp := (fun h0 => hW2.p h0 (by omega))) (hp2 := (fun h0 => by have hpl := hW2.pl h0 (by omega); omega)) H.size) (cwV 1 hts gX8_relink_X8_fitting rfl rfl rfl hdX8_fitting ⟨Nat.le_of_ble_eq_true rfl, Nat.le_of_ble_eq_true rfl⟩) (preVR hK hN hP [0, 1] rfl 0 rfl rfl [.int (nI (ek_ + j_))]) rfl rfl hl.1 rfl (lv_room (Nat.le_of_ble_eq_true rfl)) dX8_relink_31 ⟨Nat.le_refl _, Nat.le_refl _⟩) hP hS hA (fun H locs hP hS => ?_)
          refine r_top (show (mfit x_ (ek_ + j_) (pa x_ (ek_ + j_))) = (fit x_ (ek_ + j_)) from mfit_eq x_ (ek_ + j_)) ?_
          refine lv_istore (lv' := [(4, .int (fit x_ (ek_ + j_))), (0, .ref m0), (1, .int (nI ek_)), (2, .int (nI n_)), (3, .int (nI (ek_ + j_)))]) hx hb dX8_relink_34 hl (by decide) rfl (fun ls hl => ?_)
          refine lv_aload_n hx hb dX8_relink_36 rfl (lv_at hl 1 rfl) ?_
          refine lv_iload_n hx hb dX8_relink_37 rfl (lv_at hl 2 rfl) ?_
          refine lv_iload_n hx hb dX8_relink_38 rfl (lv_at hl 4 rfl) ?_
          refine call_x (va_runV (As := [.int (nI ek_), .int (nI (ek_ + j_))]) (rest := []) ⟨hx, hb, hml, hown, hts⟩ (kX8_isOnPath ln dg tq (m0 := m0) (ms := ms) (mw := mw) (mt := mt) (su := su) (pt := pt) (td := td) (wy := wy) (xs := (nI (recN st))) (xt := xt) (xa := xa) (s := x_) (hW := hW2) (x := ek_) (y := ek_ + j_) (hx := (by omega)) (hy := (by omega)) H.size) (cwV 2 hts gX8_relink_X8_isOnPath rfl rfl rfl hdX8_isOnPath ⟨Nat.le_of_ble_eq_true rfl, Nat.le_of_ble_eq_true rfl⟩) (preVR hK hN hP [0, 1] rfl 0 rfl rfl [.int (nI ek_), .int (nI (ek_ + j_))]) rfl rfl hl.1 rfl (lv_room (Nat.le_of_ble_eq_true rfl)) dX8_relink_39 ⟨Nat.le_refl _, Nat.le_refl _⟩) hP hS hA (fun H locs hP hS => ?_)
          refine r_top (show (bI (onP x_ ek_ (ek_ + j_))) = (bI (onP s ek_ (ek_ + j_))) from by rw [onP_same hW hSE (by omega)]) ?_
          refine r_if_eq_b (tgt := 74) hx hb dX8_relink_42 (by decide) (fun c42 => ?_) (fun c42 => ?_)
          · skip
            refine lv_iinc (v := (nI ((ek_ + j_) + 1))) (lv' := [(3, .int (nI ((ek_ + j_) + 1))), (4, .int (fit x_ (ek_ + j_))), (0, .ref m0), (1, .int (nI ek_)), (2, .int (nI n_))]) hx hb dX8_relink_74 hl (k := 4) rfl (nI_add _ _) (by decide) rfl (fun ls hl => ?_)
            refine lv_goto (tgt := 19) hx hb dX8_relink_77 (by decide) ?_
            exact ih19 (j_ + 1) n_ x_ H locs ls (⟨by rw [rlN, if_neg (fun z => by rw [c42] at z; cases z.1), hi1]; rfl, by omega, by rw [rlS, if_neg (fun z => by rw [c42] at z; cases z.1), hi3]⟩) (by omega) (hP.sub [0, 1, 2] rfl) (hD.sub [0, 1, 2] (by decide) rfl) hS (lv_sub hl [2, 3, 4, 0] rfl)
          · skip
            refine lv_iload hx hb dX8_relink_45 (lv_at hl 0 rfl) ?_
            refine lv_aload_n hx hb dX8_relink_47 rfl (lv_at hl 1 rfl) ?_
            refine lv_iload_n hx hb dX8_relink_48 rfl (lv_at hl 4 rfl) ?_
            refine lv_iconst (v := (nI 5)) hx hb dX8_relink_49 (by decide) ?_
            refine call_x (va_runV (As := [.int (nI (ek_ + j_)), .int (nI 5)]) (rest := [.int (fit x_ (ek_ + j_))]) ⟨hx, hb, hml, hown, hts⟩ (kX8_en ln dg tq (m0 := m0) (ms := ms) (mw := mw) (mt := mt) (su := su) (pt := pt) (td := td) (wy := wy) (xs := (nI (recN st))) (xt := xt) (xa := xa) (s := x_) (e := ek_ + j_) (f := 5) (he := (by omega)) (hf := (by omega)) H.size) (cwV 2 hts gX8_relink_X8_en rfl rfl rfl hdX8_en ⟨Nat.le_of_ble_eq_true rfl, Nat.le_of_ble_eq_true rfl⟩) (preVR hK hN hP [0, 1] rfl 0 rfl rfl [.int (nI (ek_ + j_)), .int (nI 5)]) rfl rfl hl.1 rfl (lv_room (Nat.le_of_ble_eq_true rfl)) dX8_relink_50 ⟨Nat.le_refl _, Nat.le_refl _⟩) hP hS hA (fun H locs hP hS => ?_)
            refine r_top (show (x_ (5 + 7 * (ek_ + j_) + 5)) = (me x_ (ek_ + j_) 5) from rfl) ?_
            refine lv_icmp_eq (tgt := 74) hx hb dX8_relink_53 (by decide) (fun c53 => ?_) (fun c53 => ?_)
            · skip
              have c53 : fitE (rlS s ek_ j_) (ek_ + j_) = true := by rw [← hi3]; exact decide_eq_true c53.symm
              refine lv_iinc (v := (nI ((ek_ + j_) + 1))) (lv' := [(3, .int (nI ((ek_ + j_) + 1))), (4, .int (fit x_ (ek_ + j_))), (0, .ref m0), (1, .int (nI ek_)), (2, .int (nI n_))]) hx hb dX8_relink_74 hl (k := 4) rfl (nI_add _ _) (by decide) rfl (fun ls hl => ?_)
              refine lv_goto (tgt := 19) hx hb dX8_relink_77 (by decide) ?_
              exact ih19 (j_ + 1) n_ x_ H locs ls (⟨by rw [rlN, if_neg (fun z => by rw [c53] at z; cases z.2), hi1]; rfl, by omega, by rw [rlS, if_neg (fun z => by rw [c53] at z; cases z.2), hi3]⟩) (by omega) (hP.sub [0, 1, 2] rfl) (hD.sub [0, 1, 2] (by decide) rfl) hS (lv_sub hl [2, 3, 4, 0] rfl)
            · skip
              have c53 : fitE (rlS s ek_ j_) (ek_ + j_) = false := by rw [← hi3]; exact decide_eq_false (fun z => c53 z.symm)
              refine lv_aload_n hx hb dX8_relink_56 rfl (lv_at hl 1 rfl) ?_
              refine va_get (D := dg) (ci := 8) (v := .ref ms) (C := RX8) (T := TX8) (N := 10) hx hb hts in8 hown hK hP 0 rfl rfl 0 (by decide) f7 (fun _ h9 => h9) rfl dX8_relink_57 ?_
              refine lv_iconst (v := (nI 5)) hx hb dX8_relink_60 (by decide) ?_
              refine lv_bipush (v := (nI 7)) hx hb dX8_relink_61 (by decide) ?_
              refine lv_iload_n hx hb dX8_relink_63 rfl (lv_at hl 4 rfl) ?_
              refine r_imul_n hx hb dX8_relink_64 ?_
              refine r_iadd_n hx hb dX8_relink_65 ?_
              refine lv_iconst (v := (nI 5)) hx hb dX8_relink_66 (by decide) ?_
              refine r_iadd_n hx hb dX8_relink_67 ?_
              refine lv_iload hx hb dX8_relink_68 (lv_at hl 0 rfl) ?_
              refine r_iast_n hx hb hK hP hD hS 1 rfl (k := ((5 + (7 * (ek_ + j_))) + 5)) (by omega) (by omega) dX8_relink_70 (fun H locs hP hD hS => ?_)
              have hP : va_P dg vwCl [(m0, .inr (8, [.ref ms, .ref mw, .int (nI (recN st)), .ref mt, .int xt, .int xa, .ref su, .ref pt, .ref td, .ref wy])), (ms, .inl (tq.1, 1445, .inl (upd x_ ((5 + (7 * (ek_ + j_))) + 5) (fit x_ (ek_ + j_))))), (mw, .inl (tq.1, 7225, .inl (recW was s st)))] H := hP
              have hD : va_D AA [(m0, .inr (8, [.ref ms, .ref mw, .int (nI (recN st)), .ref mt, .int xt, .int xa, .ref su, .ref pt, .ref td, .ref wy])), (ms, .inl (tq.1, 1445, .inl (upd x_ ((5 + (7 * (ek_ + j_))) + 5) (fit x_ (ek_ + j_))))), (mw, .inl (tq.1, 7225, .inl (recW was s st)))] := hD
              refine lv_iinc (v := (nI (n_ + 1))) (lv' := [(2, .int (nI (n_ + 1))), (4, .int (fit x_ (ek_ + j_))), (0, .ref m0), (1, .int (nI ek_)), (3, .int (nI (ek_ + j_)))]) hx hb dX8_relink_71 hl (k := 3) rfl (nI_add _ _) (by decide) rfl (fun ls hl => ?_)
              refine lv_iinc (v := (nI ((ek_ + j_) + 1))) (lv' := [(3, .int (nI ((ek_ + j_) + 1))), (2, .int (nI (n_ + 1))), (4, .int (fit x_ (ek_ + j_))), (0, .ref m0), (1, .int (nI ek_))]) hx hb dX8_relink_74 hl (k := 4) rfl (nI_add _ _) (by decide) rfl (fun ls hl => ?_)
              refine lv_goto (tgt := 19) hx hb dX8_relink_77 (by decide) ?_
              exact ih19 (j_ + 1) (n_ + 1) (upd x_ ((5 + (7 * (ek_ + j_))) + 5) (fit x_ (ek_ + j_))) H locs ls (⟨by rw [rlN, if_pos ⟨c42, c53⟩, hi1], by omega, by rw [rlS, if_pos ⟨c42, c53⟩, ← hi3]⟩) (by omega) (hP.sub [0, 1, 2] rfl) (hD.sub [0, 1, 2] (by decide) rfl) hS (lv_sub hl [3, 4, 1, 0] rfl)
    exact loop19 _ 0 0 s H locs ls (⟨rfl, by omega, rfl⟩) (Nat.lt_succ_self _) (hP.sub [0, 1, 2] rfl) (hD.sub [0, 1, 2] (by decide) rfl) hS (lv_sub hl [2, 3, 1, 0] rfl)
  · skip
    refine lv_ldc hx hb hown k84 dX8_relink_8 ?_
    exact hret (-100001) (s, was, st) H locs _ ls (show (-100001) = (rkR s x) ∧ (MACT s was st (hasN x (nE s)) (rkS s x) s was st) from (⟨by unfold rkR; rw [c5]; rfl, MACT.no c5⟩)) rfl (hP.sub [0, 1, 2] rfl) (hD.sub [0, 1, 2] (by decide) rfl) hS dX8_relink_10
theorem hdX8_forge : yX8_forge.cls = RX8 ∧ yX8_forge.cls ≠ "java/lang/invoke/MethodHandle" ∧ yX8_forge.cls ≠ "java/lang/invoke/VarHandle" ∧ (parseMethodDescriptor yX8_forge.desc).map (fun d => d.parameters.length) = some 2 := by decide +kernel
set_option maxHeartbeats 4000000 in
set_option maxRecDepth 100000 in
theorem kX8_forge (ln : Launch) (dg : va_G) (tq : ClassId × ClassId) (m0 ms mw mt su pt td wy : Nat) (xt xa : Int32) (st : Nat) (hst : st ≤ 5) (s was : Row) (hW : WF s) (fu_ : Row) (x a : Int32) : MW ln yX8_forge wsX8_forge (rmm 3 67) dg tq [.ref m0, .int x, .int a] [(m0, .inr (8, [.ref ms, .ref mw, .int (nI st), .ref mt, .int xt, .int xa, .ref su, .ref pt, .ref td, .ref wy])), (ms, .inl (tq.1, 1445, .inl s)), (mw, .inl (tq.1, 7225, .inl was)), (su, .inl (tq.1, 6, .inl fu_))] (fun (r : Int32) (u : Row × Row × Nat × Row) => r = (fgR s x a) ∧ (MACT s was st (fgO s x a) (fgS s (cl x) a) u.1 u.2.1 u.2.2.1)) (fun u => [(m0, .inr (8, [.ref ms, .ref mw, .int (nI u.2.2.1), .ref mt, .int xt, .int xa, .ref su, .ref pt, .ref td, .ref wy])), (ms, .inl (tq.1, 1445, .inl u.1)), (mw, .inl (tq.1, 7225, .inl u.2.1)), (su, .inl (tq.1, 6, .inl u.2.2.2))]) := by
  refine MW.enter cX8_forge 7 .int (by decide) rfl rfl (Nat.le_of_ble_eq_true rfl) ?_
  intro pP eE sS mM aA bB mT cC QQ AA hA hAT hret H locs hP hD hS ls hl
  obtain ⟨hx, hb, hml, hown, hts, hK, hN⟩ := hAT
  have hown : sS.vm.findClass RX8 = some mM.cls := hown
  have hl : lv_has ls 7 [(0, .ref m0), (1, .int x), (2, .int a)] := hl
  have in8 : ∀ w ∈ u_ws RX8 TX8 10, w ∈ wsX8_forge := (fun _ h9 => List.mem_cons_of_mem _ (List.mem_append_right _ h9))
  have k84 := hts (.constant RX8 84 (-100001)) (List.mem_of_getElem? (i := 1) rfl)
  have f7 := hts (.fieldLink RX8 7 "OrphanChainModel" "s" "[I") (List.mem_of_getElem? (i := 2) rfl)
  have k71 := hts (.constant RX8 71 (-100002)) (List.mem_of_getElem? (i := 3) rfl)
  have hn60 := hW.n60
  have hb10 := hW.b10
  have hs8 := hW.s8
  have hhn := hW.hn
  refine lv_iload_n hx hb dX8_forge_0 rfl (lv_at hl 1 rfl) ?_
  refine r_if_eq (tgt := 37) hx hb rfl dX8_forge_1 (by decide) (fun c1 => ?_) (fun c1 => ?_)
  · skip
    refine lv_ldc hx hb hown k84 dX8_forge_37 ?_
    exact hret (-100001) (s, was, st, fu_) H locs _ ls (show (-100001) = (fgR s x a) ∧ (MACT s was st (fgO s x a) (fgS s (cl x) a) s was st) from (have e0 : fgP s x a = false := (by unfold fgP; rw [decide_eq_true (show x = nI 0 from i32_eq c1)]; rfl); ⟨by unfold fgR; rw [e0]; rfl, MACT.no (by unfold fgO; rw [e0]; rfl)⟩)) rfl (hP.sub [0, 1, 2, 3] rfl) (hD.sub [0, 1, 2, 3] (by decide) rfl) hS dX8_forge_39
  · skip
    have hx0 : ¬ x = nI 0 := fun z => c1 (by rw [z]; rfl)
    refine lv_aload_n hx hb dX8_forge_4 rfl (lv_at hl 0 rfl) ?_
    refine lv_iload_n hx hb dX8_forge_5 rfl (lv_at hl 1 rfl) ?_
    refine call_x (va_runV (As := [.int x]) (rest := []) ⟨hx, hb, hml, hown, hts⟩ (kX8_isEntry ln dg tq (m0 := m0) (ms := ms) (mw := mw) (mt := mt) (su := su) (pt := pt) (td := td) (wy := wy) (xs := (nI st)) (xt := xt) (xa := xa) (s := s) (hW := hW) (x := x) H.size) (cwV 1 hts gX8_forge_X8_isEntry rfl rfl rfl hdX8_isEntry ⟨Nat.le_of_ble_eq_true rfl, Nat.le_of_ble_eq_true rfl⟩) (preVR hK hN hP [0, 1] rfl 0 rfl rfl [.int x]) rfl rfl hl.1 rfl (lv_room (Nat.le_of_ble_eq_true rfl)) dX8_forge_6 ⟨Nat.le_refl _, Nat.le_refl _⟩) hP hS hA (fun H locs hP hS => ?_)
    refine r_if_eq_b (tgt := 37) hx hb dX8_forge_9 (by decide) (fun c9 => ?_) (fun c9 => ?_)
    · skip
      refine lv_ldc hx hb hown k84 dX8_forge_37 ?_
      exact hret (-100001) (s, was, st, fu_) H locs _ ls (show (-100001) = (fgR s x a) ∧ (MACT s was st (fgO s x a) (fgS s (cl x) a) s was st) from (have e0 : fgP s x a = false := (by unfold fgP; rw [c9]; simp); ⟨by unfold fgR; rw [e0]; rfl, MACT.no (by unfold fgO; rw [e0]; rfl)⟩)) rfl (hP.sub [0, 1, 2, 3] rfl) (hD.sub [0, 1, 2, 3] (by decide) rfl) hS dX8_forge_39
    · skip
      obtain ⟨ek_, hek, rfl⟩ := hasN_t c9
      have hek0 : 0 < ek_ := Nat.pos_of_ne_zero (fun z => hx0 (by rw [z]))
      refine lv_iload_n hx hb dX8_forge_12 rfl (lv_at hl 2 rfl) ?_
      refine lv_aload_n hx hb dX8_forge_13 rfl (lv_at hl 0 rfl) ?_
      refine lv_iload_n hx hb dX8_forge_14 rfl (lv_at hl 1 rfl) ?_
      refine lv_iconst (v := (nI 1)) hx hb dX8_forge_15 (by decide) ?_
      refine call_x (va_runV (As := [.int (nI ek_), .int (nI 1)]) (rest := [.int a]) ⟨hx, hb, hml, hown, hts⟩ (kX8_en ln dg tq (m0 := m0) (ms := ms) (mw := mw) (mt := mt) (su := su) (pt := pt) (td := td) (wy := wy) (xs := (nI st)) (xt := xt) (xa := xa) (s := s) (e := ek_) (f := 1) (he := (by omega)) (hf := (by omega)) H.size) (cwV 2 hts gX8_forge_X8_en rfl rfl rfl hdX8_en ⟨Nat.le_of_ble_eq_true rfl, Nat.le_of_ble_eq_true rfl⟩) (preVR hK hN hP [0, 1] rfl 0 rfl rfl [.int (nI ek_), .int (nI 1)]) rfl rfl hl.1 rfl (lv_room (Nat.le_of_ble_eq_true rfl)) dX8_forge_16 ⟨Nat.le_refl _, Nat.le_refl _⟩) hP hS hA (fun H locs hP hS => ?_)
      refine r_top (show (s (5 + 7 * ek_ + 1)) = (me s ek_ 1) from rfl) ?_
      refine lv_iconst (v := (nI 4)) hx hb dX8_forge_19 (by decide) ?_
      refine r_icmp_ne (tgt := 27) hx hb rfl (nI_tI (by omega)) dX8_forge_20 (by decide) (fun c20 => ?_) (fun c20 => ?_)
      · skip
        refine lv_iconst (v := (nI 1)) hx hb dX8_forge_27 (by decide) ?_
        refine lv_sipush (v := (nI 999)) hx hb dX8_forge_28 (by decide) ?_
        refine call_x (va_runS (As := [.int a, .int (nI 1), .int (nI 999)]) (rest := []) ⟨hx, hb, hml, hown, hts⟩ (kX8_in ln dg tq (v := a) (lo := (nI 1)) (hi := (nI 999)) H.size) (va_cwS 3 hts gX8_forge_X8_in rfl rfl rfl hdX8_in.2 ⟨Nat.le_of_ble_eq_true rfl, Nat.le_of_ble_eq_true rfl⟩) (preS0 hK hN [.int a, .int (nI 1), .int (nI 999)]) rfl rfl hl.1 rfl (lv_room (Nat.le_of_ble_eq_true rfl)) dX8_forge_31 ⟨Nat.le_refl _, Nat.le_refl _⟩) hP hS hA (fun H locs hP hS => ?_)
        refine r_if_ne_b (tgt := 40) hx hb dX8_forge_34 (by decide) (fun c34 => ?_) (fun c34 => ?_)
        · skip
          obtain ⟨ak_, ha1, ha2, rfl⟩ := inR_t (by omega) (by omega) c34
          have hWG : WG (fgS s ek_ (nI ak_)) := fg_WG hW (by rw [nI_tI (by omega)]; omega) (by rw [nI_tI (by omega)]; omega)
          have eN : nE (fgS s ek_ (nI ak_)) = nE s := fg_n
          refine lv_iconst (v := (nI 5)) hx hb dX8_forge_40 (by decide) ?_
          refine lv_bipush (v := (nI 7)) hx hb dX8_forge_41 (by decide) ?_
          refine lv_iload_n hx hb dX8_forge_43 rfl (lv_at hl 1 rfl) ?_
          refine r_imul_n hx hb dX8_forge_44 ?_
          refine r_iadd_n hx hb dX8_forge_45 ?_
          refine lv_iconst (v := (nI 4)) hx hb dX8_forge_46 (by decide) ?_
          refine r_iadd_n hx hb dX8_forge_47 ?_
          refine lv_istore_n (lv' := [(3, .int (nI ((5 + (7 * ek_)) + 4))), (0, .ref m0), (1, .int (nI ek_)), (2, .int (nI ak_))]) hx hb dX8_forge_48 rfl hl (by decide) rfl (fun ls hl => ?_)
          refine lv_aload_n hx hb dX8_forge_49 rfl (lv_at hl 1 rfl) ?_
          refine va_get (D := dg) (ci := 8) (v := .ref ms) (C := RX8) (T := TX8) (N := 10) hx hb hts in8 hown hK hP 0 rfl rfl 0 (by decide) f7 (fun _ h9 => h9) rfl dX8_forge_50 ?_
          refine lv_iload_n hx hb dX8_forge_53 rfl (lv_at hl 0 rfl) ?_
          refine r_iald_n hx hb hK hP 1 rfl (k := ((5 + (7 * ek_)) + 4)) (by omega) (by omega) dX8_forge_54 ?_
          refine r_top (show (s ((5 + (7 * ek_)) + 4)) = (me s ek_ 4) from rfl) ?_
          refine lv_istore (lv' := [(4, .int (me s ek_ 4)), (3, .int (nI ((5 + (7 * ek_)) + 4))), (0, .ref m0), (1, .int (nI ek_)), (2, .int (nI ak_))]) hx hb dX8_forge_55 hl (by decide) rfl (fun ls hl => ?_)
          refine lv_aload_n hx hb dX8_forge_57 rfl (lv_at hl 2 rfl) ?_
          refine va_get (D := dg) (ci := 8) (v := .ref ms) (C := RX8) (T := TX8) (N := 10) hx hb hts in8 hown hK hP 0 rfl rfl 0 (by decide) f7 (fun _ h9 => h9) rfl dX8_forge_58 ?_
          refine lv_iload_n hx hb dX8_forge_61 rfl (lv_at hl 1 rfl) ?_
          refine lv_iload_n hx hb dX8_forge_62 rfl (lv_at hl 4 rfl) ?_
          refine r_iast_n hx hb hK hP hD hS 1 rfl (k := ((5 + (7 * ek_)) + 4)) (by omega) (by omega) dX8_forge_63 (fun H locs hP hD hS => ?_)
          have hP : va_P dg vwCl [(m0, .inr (8, [.ref ms, .ref mw, .int (nI st), .ref mt, .int xt, .int xa, .ref su, .ref pt, .ref td, .ref wy])), (ms, .inl (tq.1, 1445, .inl (upd s ((5 + (7 * ek_)) + 4) (nI ak_)))), (mw, .inl (tq.1, 7225, .inl was)), (su, .inl (tq.1, 6, .inl fu_))] H := hP
          have hD : va_D AA [(m0, .inr (8, [.ref ms, .ref mw, .int (nI st), .ref mt, .int xt, .int xa, .ref su, .ref pt, .ref td, .ref wy])), (ms, .inl (tq.1, 1445, .inl (upd s ((5 + (7 * ek_)) + 4) (nI ak_)))), (mw, .inl (tq.1, 7225, .inl was)), (su, .inl (tq.1, 6, .inl fu_))] := hD
          have ew : (upd s ((5 + (7 * ek_)) + 4) (nI ak_)) = (fgS s ek_ (nI ak_)) := rfl
          have hP : va_P dg vwCl [(m0, .inr (8, [.ref ms, .ref mw, .int (nI st), .ref mt, .int xt, .int xa, .ref su, .ref pt, .ref td, .ref wy])), (ms, .inl (tq.1, 1445, .inl (fgS s ek_ (nI ak_)))), (mw, .inl (tq.1, 7225, .inl was)), (su, .inl (tq.1, 6, .inl fu_))] H := by rw [← ew]; exact hP
          have hD : va_D AA [(m0, .inr (8, [.ref ms, .ref mw, .int (nI st), .ref mt, .int xt, .int xa, .ref su, .ref pt, .ref td, .ref wy])), (ms, .inl (tq.1, 1445, .inl (fgS s ek_ (nI ak_)))), (mw, .inl (tq.1, 7225, .inl was)), (su, .inl (tq.1, 6, .inl fu_))] := by rw [← ew]; exact hD
          refine lv_iconst (v := (nI 0)) hx hb dX8_forge_64 (by decide) ?_
          refine lv_istore (lv' := [(5, .int (nI 0)), (4, .int (me s ek_ 4)), (3, .int (nI ((5 + (7 * ek_)) + 4))), (0, .ref m0), (1, .int (nI ek_)), (2, .int (nI ak_))]) hx hb dX8_forge_65 hl (by decide) rfl (fun ls hl => ?_)
          have hl : lv_has ls 7 [(5, .int (bI false)), (4, .int (me s ek_ 4)), (3, .int (nI ((5 + (7 * ek_)) + 4))), (0, .ref m0), (1, .int (nI ek_)), (2, .int (nI ak_))] := by have el : (nI 0) = (bI false) := (rfl); rw [← el]; exact hl
          refine lv_iconst (v := (nI 0)) hx hb dX8_forge_67 (by decide) ?_
          refine lv_istore (lv' := [(6, .int (nI 0)), (5, .int (bI false)), (4, .int (me s ek_ 4)), (3, .int (nI ((5 + (7 * ek_)) + 4))), (0, .ref m0), (1, .int (nI ek_)), (2, .int (nI ak_))]) hx hb dX8_forge_68 hl (by decide) rfl (fun ls hl => ?_)
          have loop70 : ∀ (fu : Nat) (e_ : Nat) (b_ : Bool) (f_ : Row) (H : Heap) (locs : List Loc) (ls : Array Slot), (e_ ≤ nE s ∧ fgOK s ek_ (nI ak_) = (!b_ && allF (highB (fgS s ek_ (nI ak_))) e_ (nE s - e_))) → nE s - e_ < fu → va_P dg vwCl [(m0, .inr (8, [.ref ms, .ref mw, .int (nI st), .ref mt, .int xt, .int xa, .ref su, .ref pt, .ref td, .ref wy])), (ms, .inl (tq.1, 1445, .inl (fgS s ek_ (nI ak_)))), (mw, .inl (tq.1, 7225, .inl was)), (su, .inl (tq.1, 6, .inl f_))] H → va_D AA [(m0, .inr (8, [.ref ms, .ref mw, .int (nI st), .ref mt, .int xt, .int xa, .ref su, .ref pt, .ref td, .ref wy])), (ms, .inl (tq.1, 1445, .inl (fgS s ek_ (nI ak_)))), (mw, .inl (tq.1, 7225, .inl was)), (su, .inl (tq.1, 6, .inl f_))] → va_S AA sS.heap H locs → lv_has ls 7 [(0, .ref m0), (2, .int (nI ak_)), (3, .int (nI (5 + 7 * ek_ + 4))), (4, .int (me s ek_ 4)), (5, .int (bI b_)), (6, .int (nI e_))] → W pP ln eE (rmm 3 67) sS mM aA bB mT cC H locs 0 0 QQ (F0 mM 70 ls []) := by
            intro fu
            induction fu with
            | zero => intro e_ b_ f_ H locs ls _ hm; exact absurd hm (Nat.not_lt_zero _)
            | succ fu ih70 =>
              intro e_ b_ f_ H locs ls hinv hm hP hD hS hl
              obtain ⟨hi1, hi2⟩ := hinv
              refine lv_iload hx hb dX8_forge_70 (lv_at hl 5 rfl) ?_
              refine lv_aload_n hx hb dX8_forge_72 rfl (lv_at hl 0 rfl) ?_
              refine va_get (D := dg) (ci := 8) (v := .ref ms) (C := RX8) (T := TX8) (N := 10) hx hb hts in8 hown hK hP 0 rfl rfl 0 (by decide) f7 (fun _ h9 => h9) rfl dX8_forge_73 ?_
              refine lv_iconst (v := (nI 0)) hx hb dX8_forge_76 (by decide) ?_
              refine r_iald_n hx hb hK hP 1 rfl (k := 0) (by omega) (by omega) dX8_forge_77 ?_
              refine r_top (show ((fgS s ek_ (nI ak_)) 0) = (nI (nE s)) from by unfold fgS; rw [pk_un (by omega)]; exact hW.n) ?_
              refine r_icmp_ge (tgt := 104) hx hb (nI_tI (by omega)) (nI_tI (by omega)) dX8_forge_78 (by decide) (fun c78 => ?_) (fun c78 => ?_)
              · skip
                refine lv_aload_n hx hb dX8_forge_104 rfl (lv_at hl 0 rfl) ?_
                refine va_get (D := dg) (ci := 8) (v := .ref ms) (C := RX8) (T := TX8) (N := 10) hx hb hts in8 hown hK hP 0 rfl rfl 0 (by decide) f7 (fun _ h9 => h9) rfl dX8_forge_105 ?_
                refine lv_iload_n hx hb dX8_forge_108 rfl (lv_at hl 2 rfl) ?_
                refine lv_iload hx hb dX8_forge_109 (lv_at hl 3 rfl) ?_
                refine r_iast_n hx hb hK hP hD hS 1 rfl (k := (5 + 7 * ek_ + 4)) (by omega) (by omega) dX8_forge_111 (fun H locs hP hD hS => ?_)
                have hP : va_P dg vwCl [(m0, .inr (8, [.ref ms, .ref mw, .int (nI st), .ref mt, .int xt, .int xa, .ref su, .ref pt, .ref td, .ref wy])), (ms, .inl (tq.1, 1445, .inl (upd (fgS s ek_ (nI ak_)) (5 + 7 * ek_ + 4) (me s ek_ 4)))), (mw, .inl (tq.1, 7225, .inl was)), (su, .inl (tq.1, 6, .inl f_))] H := hP
                have hD : va_D AA [(m0, .inr (8, [.ref ms, .ref mw, .int (nI st), .ref mt, .int xt, .int xa, .ref su, .ref pt, .ref td, .ref wy])), (ms, .inl (tq.1, 1445, .inl (upd (fgS s ek_ (nI ak_)) (5 + 7 * ek_ + 4) (me s ek_ 4)))), (mw, .inl (tq.1, 7225, .inl was)), (su, .inl (tq.1, 6, .inl f_))] := hD
                have ew : (upd (fgS s ek_ (nI ak_)) (5 + 7 * ek_ + 4) (me s ek_ 4)) = s := fgS_back
                have hP : va_P dg vwCl [(m0, .inr (8, [.ref ms, .ref mw, .int (nI st), .ref mt, .int xt, .int xa, .ref su, .ref pt, .ref td, .ref wy])), (ms, .inl (tq.1, 1445, .inl s)), (mw, .inl (tq.1, 7225, .inl was)), (su, .inl (tq.1, 6, .inl f_))] H := by rw [← ew]; exact hP
                have hD : va_D AA [(m0, .inr (8, [.ref ms, .ref mw, .int (nI st), .ref mt, .int xt, .int xa, .ref su, .ref pt, .ref td, .ref wy])), (ms, .inl (tq.1, 1445, .inl s)), (mw, .inl (tq.1, 7225, .inl was)), (su, .inl (tq.1, 6, .inl f_))] := by rw [← ew]; exact hD
                refine lv_iload hx hb dX8_forge_112 (lv_at hl 4 rfl) ?_
                refine r_if_eq_b (tgt := 120) hx hb dX8_forge_114 (by decide) (fun c114 => ?_) (fun c114 => ?_)
                · skip
                  refine lv_aload_n hx hb dX8_forge_120 rfl (lv_at hl 0 rfl) ?_
                  refine call_v (wr := [(su, .inl (tq.1, 6, .inl f_))]) (va_runV (As := []) (rest := []) ⟨hx, hb, hml, hown, hts⟩ (kX8_records ln dg tq (m0 := m0) (ms := ms) (mw := mw) (mt := mt) (su := su) (pt := pt) (td := td) (wy := wy) (xt := xt) (xa := xa) (st := st) (hst := (by omega)) (s := s) (was := was) H.size) (cwV 0 hts gX8_forge_X8_records rfl rfl rfl hdX8_records ⟨Nat.le_of_ble_eq_true rfl, Nat.le_of_ble_eq_true rfl⟩) (preVB hK hN hP hD [0, 1, 2] rfl rfl rfl 0 rfl rfl []) rfl rfl hl.1 rfl (lv_room (Nat.le_of_ble_eq_true rfl)) dX8_forge_121 ⟨Nat.le_refl _, Nat.le_refl _⟩) hP hD hS hA [0, 1, 2] [3] rfl rfl (by decide) (by decide) (fun u121 H locs hw121 hP hD hS => ?_)
                  have hP : va_P dg vwCl [(su, .inl (tq.1, 6, .inl f_)), (m0, .inr (8, [.ref ms, .ref mw, .int (nI (recN st)), .ref mt, .int xt, .int xa, .ref su, .ref pt, .ref td, .ref wy])), (ms, .inl (tq.1, 1445, .inl s)), (mw, .inl (tq.1, 7225, .inl (recW was s st)))] H := hP
                  have hD : va_D AA [(su, .inl (tq.1, 6, .inl f_)), (m0, .inr (8, [.ref ms, .ref mw, .int (nI (recN st)), .ref mt, .int xt, .int xa, .ref su, .ref pt, .ref td, .ref wy])), (ms, .inl (tq.1, 1445, .inl s)), (mw, .inl (tq.1, 7225, .inl (recW was s st)))] := hD
                  refine lv_aload_n hx hb dX8_forge_124 rfl (lv_at hl 0 rfl) ?_
                  refine va_get (D := dg) (ci := 8) (v := .ref ms) (C := RX8) (T := TX8) (N := 10) hx hb hts in8 hown hK hP 1 rfl rfl 0 (by decide) f7 (fun _ h9 => h9) rfl dX8_forge_125 ?_
                  refine lv_iload_n hx hb dX8_forge_128 rfl (lv_at hl 2 rfl) ?_
                  refine lv_iload_n hx hb dX8_forge_129 rfl (lv_at hl 1 rfl) ?_
                  refine r_iast_n hx hb hK hP hD hS 2 rfl (k := (5 + 7 * ek_ + 4)) (by omega) (by omega) dX8_forge_130 (fun H locs hP hD hS => ?_)
                  have hP : va_P dg vwCl [(su, .inl (tq.1, 6, .inl f_)), (m0, .inr (8, [.ref ms, .ref mw, .int (nI (recN st)), .ref mt, .int xt, .int xa, .ref su, .ref pt, .ref td, .ref wy])), (ms, .inl (tq.1, 1445, .inl (upd s (5 + 7 * ek_ + 4) (nI ak_)))), (mw, .inl (tq.1, 7225, .inl (recW was s st)))] H := hP
                  have hD : va_D AA [(su, .inl (tq.1, 6, .inl f_)), (m0, .inr (8, [.ref ms, .ref mw, .int (nI (recN st)), .ref mt, .int xt, .int xa, .ref su, .ref pt, .ref td, .ref wy])), (ms, .inl (tq.1, 1445, .inl (upd s (5 + 7 * ek_ + 4) (nI ak_)))), (mw, .inl (tq.1, 7225, .inl (recW was s st)))] := hD
                  have ew : (upd s (5 + 7 * ek_ + 4) (nI ak_)) = (fgS s ek_ (nI ak_)) := rfl
                  have hP : va_P dg vwCl [(su, .inl (tq.1, 6, .inl f_)), (m0, .inr (8, [.ref ms, .ref mw, .int (nI (recN st)), .ref mt, .int xt, .int xa, .ref su, .ref pt, .ref td, .ref wy])), (ms, .inl (tq.1, 1445, .inl (fgS s ek_ (nI ak_)))), (mw, .inl (tq.1, 7225, .inl (recW was s st)))] H := by rw [← ew]; exact hP
                  have hD : va_D AA [(su, .inl (tq.1, 6, .inl f_)), (m0, .inr (8, [.ref ms, .ref mw, .int (nI (recN st)), .ref mt, .int xt, .int xa, .ref su, .ref pt, .ref td, .ref wy])), (ms, .inl (tq.1, 1445, .inl (fgS s ek_ (nI ak_)))), (mw, .inl (tq.1, 7225, .inl (recW was s st)))] := by rw [← ew]; exact hD
                  refine lv_iload hx hb dX8_forge_131 (lv_at hl 3 rfl) ?_
                  exact hret (me s ek_ 4) ((fgS s ek_ (nI ak_)), (recW was s st), (recN st), f_) H locs _ ls (show (me s ek_ 4) = (fgR s (nI ek_) (nI ak_)) ∧ (MACT s was st (fgO s (nI ek_) (nI ak_)) (fgS s (cl (nI ek_)) (nI ak_)) (fgS s ek_ (nI ak_)) (recW was s st) (recN st)) from (have e0 : fgP s (nI ek_) (nI ak_) = true := (by unfold fgP; rw [decide_eq_false hx0, c9, cl_n (show ek_ < 2147483648 by omega), if_neg (show ¬ kd s ek_ = 4 from c20), c34]; rfl); have e1 : fgOK s ek_ (nI ak_) = true := (by rw [hi2, c114, show nE s - e_ = 0 by omega]; rfl); ⟨by unfold fgR; rw [e0, if_pos rfl, cl_n (show ek_ < 2147483648 by omega), e1]; rfl, MACT.yes (by unfold fgO; rw [e0, cl_n (show ek_ < 2147483648 by omega), e1]; rfl) (by rw [cl_n (show ek_ < 2147483648 by omega)])⟩)) rfl (hP.sub [1, 2, 3, 0] rfl) (hD.sub [1, 2, 3, 0] (by decide) rfl) hS dX8_forge_133
                · skip
                  refine lv_ldc hx hb hown k71 dX8_forge_117 ?_
                  exact hret (-100002) (s, was, st, f_) H locs _ ls (show (-100002) = (fgR s (nI ek_) (nI ak_)) ∧ (MACT s was st (fgO s (nI ek_) (nI ak_)) (fgS s (cl (nI ek_)) (nI ak_)) s was st) from (have e0 : fgP s (nI ek_) (nI ak_) = true := (by unfold fgP; rw [decide_eq_false hx0, c9, cl_n (show ek_ < 2147483648 by omega), if_neg (show ¬ kd s ek_ = 4 from c20), c34]; rfl); have e1 : fgOK s ek_ (nI ak_) = false := (by rw [hi2, c114]; rfl); ⟨by unfold fgR; rw [e0, if_pos rfl, cl_n (show ek_ < 2147483648 by omega), e1]; rfl, MACT.no (by unfold fgO; rw [e0, cl_n (show ek_ < 2147483648 by omega), e1]; rfl)⟩)) rfl (hP.sub [0, 1, 2, 3] rfl) (hD.sub [0, 1, 2, 3] (by decide) rfl) hS dX8_forge_119
              · skip
                refine lv_iload hx hb dX8_forge_81 (lv_at hl 4 rfl) ?_
                refine r_if_ne_b (tgt := 104) hx hb dX8_forge_83 (by decide) (fun c83 => ?_) (fun c83 => ?_)
                · skip
                  refine lv_aload_n hx hb dX8_forge_104 rfl (lv_at hl 0 rfl) ?_
                  refine va_get (D := dg) (ci := 8) (v := .ref ms) (C := RX8) (T := TX8) (N := 10) hx hb hts in8 hown hK hP 0 rfl rfl 0 (by decide) f7 (fun _ h9 => h9) rfl dX8_forge_105 ?_
                  refine lv_iload_n hx hb dX8_forge_108 rfl (lv_at hl 2 rfl) ?_
                  refine lv_iload hx hb dX8_forge_109 (lv_at hl 3 rfl) ?_
                  refine r_iast_n hx hb hK hP hD hS 1 rfl (k := (5 + 7 * ek_ + 4)) (by omega) (by omega) dX8_forge_111 (fun H locs hP hD hS => ?_)
                  have hP : va_P dg vwCl [(m0, .inr (8, [.ref ms, .ref mw, .int (nI st), .ref mt, .int xt, .int xa, .ref su, .ref pt, .ref td, .ref wy])), (ms, .inl (tq.1, 1445, .inl (upd (fgS s ek_ (nI ak_)) (5 + 7 * ek_ + 4) (me s ek_ 4)))), (mw, .inl (tq.1, 7225, .inl was)), (su, .inl (tq.1, 6, .inl f_))] H := hP
                  have hD : va_D AA [(m0, .inr (8, [.ref ms, .ref mw, .int (nI st), .ref mt, .int xt, .int xa, .ref su, .ref pt, .ref td, .ref wy])), (ms, .inl (tq.1, 1445, .inl (upd (fgS s ek_ (nI ak_)) (5 + 7 * ek_ + 4) (me s ek_ 4)))), (mw, .inl (tq.1, 7225, .inl was)), (su, .inl (tq.1, 6, .inl f_))] := hD
                  have ew : (upd (fgS s ek_ (nI ak_)) (5 + 7 * ek_ + 4) (me s ek_ 4)) = s := fgS_back
                  have hP : va_P dg vwCl [(m0, .inr (8, [.ref ms, .ref mw, .int (nI st), .ref mt, .int xt, .int xa, .ref su, .ref pt, .ref td, .ref wy])), (ms, .inl (tq.1, 1445, .inl s)), (mw, .inl (tq.1, 7225, .inl was)), (su, .inl (tq.1, 6, .inl f_))] H := by rw [← ew]; exact hP
                  have hD : va_D AA [(m0, .inr (8, [.ref ms, .ref mw, .int (nI st), .ref mt, .int xt, .int xa, .ref su, .ref pt, .ref td, .ref wy])), (ms, .inl (tq.1, 1445, .inl s)), (mw, .inl (tq.1, 7225, .inl was)), (su, .inl (tq.1, 6, .inl f_))] := by rw [← ew]; exact hD
                  refine lv_iload hx hb dX8_forge_112 (lv_at hl 4 rfl) ?_
                  refine r_if_eq_b (tgt := 120) hx hb dX8_forge_114 (by decide) (fun c114 => False.elim (by rw [c83] at c114; cases c114)) (fun c114 => ?_)
                  refine lv_ldc hx hb hown k71 dX8_forge_117 ?_
                  exact hret (-100002) (s, was, st, f_) H locs _ ls (show (-100002) = (fgR s (nI ek_) (nI ak_)) ∧ (MACT s was st (fgO s (nI ek_) (nI ak_)) (fgS s (cl (nI ek_)) (nI ak_)) s was st) from (have e0 : fgP s (nI ek_) (nI ak_) = true := (by unfold fgP; rw [decide_eq_false hx0, c9, cl_n (show ek_ < 2147483648 by omega), if_neg (show ¬ kd s ek_ = 4 from c20), c34]; rfl); have e1 : fgOK s ek_ (nI ak_) = false := (by rw [hi2, c83]; rfl); ⟨by unfold fgR; rw [e0, if_pos rfl, cl_n (show ek_ < 2147483648 by omega), e1]; rfl, MACT.no (by unfold fgO; rw [e0, cl_n (show ek_ < 2147483648 by omega), e1]; rfl)⟩)) rfl (hP.sub [0, 1, 2, 3] rfl) (hD.sub [0, 1, 2, 3] (by decide) rfl) hS dX8_forge_119
                · skip
                  refine lv_aload_n hx hb dX8_forge_86 rfl (lv_at hl 0 rfl) ?_
                  refine lv_iload hx hb dX8_forge_87 (lv_at hl 5 rfl) ?_
                  refine call_v (wr := [(mw, .inl (tq.1, 7225, .inl was))]) (va_runV (As := [.int (nI e_)]) (rest := []) ⟨hx, hb, hml, hown, hts⟩ (kX8_balances__g ln dg tq (m0 := m0) (ms := ms) (mw := mw) (mt := mt) (su := su) (pt := pt) (td := td) (wy := wy) (xs := (nI st)) (xt := xt) (xa := xa) (s := fgS s ek_ (nI ak_)) (f := f_) (hW := hWG) (y := e_) (hy := (by rw [eN]; omega)) H.size) (cwV 1 hts gX8_forge_X8_balances rfl rfl rfl hdX8_balances ⟨Nat.le_of_ble_eq_true rfl, Nat.le_of_ble_eq_true rfl⟩) (preVB hK hN hP hD [0, 1, 3] rfl rfl rfl 0 rfl rfl [.int (nI e_)]) rfl rfl hl.1 rfl (lv_room (Nat.le_of_ble_eq_true rfl)) dX8_forge_89 ⟨Nat.le_refl _, Nat.le_refl _⟩) hP hD hS hA [0, 1, 3] [2] rfl rfl (by decide) (by decide) (fun u89 H locs hw89 hP hD hS => ?_)
                  obtain ⟨g89, rfl⟩ : ∃ z, z = u89 := ⟨_, rfl⟩
                  have hP : va_P dg vwCl [(mw, .inl (tq.1, 7225, .inl was)), (m0, .inr (8, [.ref ms, .ref mw, .int (nI st), .ref mt, .int xt, .int xa, .ref su, .ref pt, .ref td, .ref wy])), (ms, .inl (tq.1, 1445, .inl (fgS s ek_ (nI ak_)))), (su, .inl (tq.1, 6, .inl g89))] H := hP
                  have hD : va_D AA [(mw, .inl (tq.1, 7225, .inl was)), (m0, .inr (8, [.ref ms, .ref mw, .int (nI st), .ref mt, .int xt, .int xa, .ref su, .ref pt, .ref td, .ref wy])), (ms, .inl (tq.1, 1445, .inl (fgS s ek_ (nI ak_)))), (su, .inl (tq.1, 6, .inl g89))] := hD
                  refine lv_aload_n hx hb dX8_forge_92 rfl (lv_at hl 0 rfl) ?_
                  refine call_x (va_runV (As := []) (rest := []) ⟨hx, hb, hml, hown, hts⟩ (kX8_isLow ln dg tq (m0 := m0) (ms := ms) (mw := mw) (mt := mt) (su := su) (pt := pt) (td := td) (wy := wy) (xs := (nI st)) (xt := xt) (xa := xa) (f := g89) (v := bal (fgS s ek_ (nI ak_)) e_) (hV := hw89) (hr := (fun a ha => fg_rng hW hek0 hek (by rw [nI_tI (by omega)]; omega) (by rw [nI_tI (by omega)]; omega) (by omega) ha)) H.size) (cwV 0 hts gX8_forge_X8_isLow rfl rfl rfl hdX8_isLow ⟨Nat.le_of_ble_eq_true rfl, Nat.le_of_ble_eq_true rfl⟩) (preVR hK hN hP [1, 3] rfl 1 rfl rfl []) rfl rfl hl.1 rfl (lv_room (Nat.le_of_ble_eq_true rfl)) dX8_forge_93 ⟨Nat.le_refl _, Nat.le_refl _⟩) hP hS hA (fun H locs hP hS => ?_)
                  refine r_top (show (bI (lowV (bal (fgS s ek_ (nI ak_)) e_))) = (bI (!highB (fgS s ek_ (nI ak_)) e_)) from rfl) ?_
                  refine lv_istore (lv' := [(5, .int (bI (!highB (fgS s ek_ (nI ak_)) e_))), (0, .ref m0), (2, .int (nI ak_)), (3, .int (nI (5 + 7 * ek_ + 4))), (4, .int (me s ek_ 4)), (6, .int (nI e_))]) hx hb dX8_forge_96 hl (by decide) rfl (fun ls hl => ?_)
                  refine lv_iinc (v := (nI (e_ + 1))) (lv' := [(6, .int (nI (e_ + 1))), (5, .int (bI (!highB (fgS s ek_ (nI ak_)) e_))), (0, .ref m0), (2, .int (nI ak_)), (3, .int (nI (5 + 7 * ek_ + 4))), (4, .int (me s ek_ 4))]) hx hb dX8_forge_98 hl (k := 5) rfl (nI_add _ _) (by decide) rfl (fun ls hl => ?_)
                  refine lv_goto (tgt := 70) hx hb dX8_forge_101 (by decide) ?_
                  exact ih70 (e_ + 1) (!highB (fgS s ek_ (nI ak_)) e_) g89 H locs ls (⟨by omega, by rw [hi2, c83, show nE s - e_ = (nE s - (e_ + 1)) + 1 by omega, allF, Bool.not_not, Bool.not_false, Bool.true_and]⟩) (by omega) (hP.sub [1, 2, 0, 3] rfl) (hD.sub [1, 2, 0, 3] (by decide) rfl) hS (lv_sub hl [2, 3, 4, 5, 1, 0] rfl)
          exact loop70 _ 0 false fu_ H locs ls (⟨by omega, by unfold fgOK; simp⟩) (Nat.lt_succ_self _) (hP.sub [0, 1, 2, 3] rfl) (hD.sub [0, 1, 2, 3] (by decide) rfl) hS (lv_sub hl [4, 6, 3, 2, 1, 0] rfl)
        · skip
          refine lv_ldc hx hb hown k84 dX8_forge_37 ?_
          exact hret (-100001) (s, was, st, fu_) H locs _ ls (show (-100001) = (fgR s (nI ek_) a) ∧ (MACT s was st (fgO s (nI ek_) a) (fgS s (cl (nI ek_)) a) s was st) from (have e0 : fgP s (nI ek_) a = false := (by unfold fgP; rw [decide_eq_false hx0, c9, cl_n (show ek_ < 2147483648 by omega), if_neg (show ¬ kd s ek_ = 4 from c20), c34]; rfl); ⟨by unfold fgR; rw [e0]; rfl, MACT.no (by unfold fgO; rw [e0]; rfl)⟩)) rfl (hP.sub [0, 1, 2, 3] rfl) (hD.sub [0, 1, 2, 3] (by decide) rfl) hS dX8_forge_39
      · skip
        refine lv_iconst (v := (nI 0)) hx hb dX8_forge_23 (by decide) ?_
        refine lv_goto (tgt := 28) hx hb dX8_forge_24 (by decide) ?_
        refine lv_sipush (v := (nI 999)) hx hb dX8_forge_28 (by decide) ?_
        refine call_x (va_runS (As := [.int a, .int (nI 0), .int (nI 999)]) (rest := []) ⟨hx, hb, hml, hown, hts⟩ (kX8_in ln dg tq (v := a) (lo := (nI 0)) (hi := (nI 999)) H.size) (va_cwS 3 hts gX8_forge_X8_in rfl rfl rfl hdX8_in.2 ⟨Nat.le_of_ble_eq_true rfl, Nat.le_of_ble_eq_true rfl⟩) (preS0 hK hN [.int a, .int (nI 0), .int (nI 999)]) rfl rfl hl.1 rfl (lv_room (Nat.le_of_ble_eq_true rfl)) dX8_forge_31 ⟨Nat.le_refl _, Nat.le_refl _⟩) hP hS hA (fun H locs hP hS => ?_)
        refine r_if_ne_b (tgt := 40) hx hb dX8_forge_34 (by decide) (fun c34 => ?_) (fun c34 => ?_)
        · skip
          obtain ⟨ak_, ha1, ha2, rfl⟩ := inR_t (by omega) (by omega) c34
          have hWG : WG (fgS s ek_ (nI ak_)) := fg_WG hW (by rw [nI_tI (by omega)]; omega) (by rw [nI_tI (by omega)]; omega)
          have eN : nE (fgS s ek_ (nI ak_)) = nE s := fg_n
          refine lv_iconst (v := (nI 5)) hx hb dX8_forge_40 (by decide) ?_
          refine lv_bipush (v := (nI 7)) hx hb dX8_forge_41 (by decide) ?_
          refine lv_iload_n hx hb dX8_forge_43 rfl (lv_at hl 1 rfl) ?_
          refine r_imul_n hx hb dX8_forge_44 ?_
          refine r_iadd_n hx hb dX8_forge_45 ?_
          refine lv_iconst (v := (nI 4)) hx hb dX8_forge_46 (by decide) ?_
          refine r_iadd_n hx hb dX8_forge_47 ?_
          refine lv_istore_n (lv' := [(3, .int (nI ((5 + (7 * ek_)) + 4))), (0, .ref m0), (1, .int (nI ek_)), (2, .int (nI ak_))]) hx hb dX8_forge_48 rfl hl (by decide) rfl (fun ls hl => ?_)
          refine lv_aload_n hx hb dX8_forge_49 rfl (lv_at hl 1 rfl) ?_
          refine va_get (D := dg) (ci := 8) (v := .ref ms) (C := RX8) (T := TX8) (N := 10) hx hb hts in8 hown hK hP 0 rfl rfl 0 (by decide) f7 (fun _ h9 => h9) rfl dX8_forge_50 ?_
          refine lv_iload_n hx hb dX8_forge_53 rfl (lv_at hl 0 rfl) ?_
          refine r_iald_n hx hb hK hP 1 rfl (k := ((5 + (7 * ek_)) + 4)) (by omega) (by omega) dX8_forge_54 ?_
          refine r_top (show (s ((5 + (7 * ek_)) + 4)) = (me s ek_ 4) from rfl) ?_
          refine lv_istore (lv' := [(4, .int (me s ek_ 4)), (3, .int (nI ((5 + (7 * ek_)) + 4))), (0, .ref m0), (1, .int (nI ek_)), (2, .int (nI ak_))]) hx hb dX8_forge_55 hl (by decide) rfl (fun ls hl => ?_)
          refine lv_aload_n hx hb dX8_forge_57 rfl (lv_at hl 2 rfl) ?_
          refine va_get (D := dg) (ci := 8) (v := .ref ms) (C := RX8) (T := TX8) (N := 10) hx hb hts in8 hown hK hP 0 rfl rfl 0 (by decide) f7 (fun _ h9 => h9) rfl dX8_forge_58 ?_
          refine lv_iload_n hx hb dX8_forge_61 rfl (lv_at hl 1 rfl) ?_
          refine lv_iload_n hx hb dX8_forge_62 rfl (lv_at hl 4 rfl) ?_
          refine r_iast_n hx hb hK hP hD hS 1 rfl (k := ((5 + (7 * ek_)) + 4)) (by omega) (by omega) dX8_forge_63 (fun H locs hP hD hS => ?_)
          have hP : va_P dg vwCl [(m0, .inr (8, [.ref ms, .ref mw, .int (nI st), .ref mt, .int xt, .int xa, .ref su, .ref pt, .ref td, .ref wy])), (ms, .inl (tq.1, 1445, .inl (upd s ((5 + (7 * ek_)) + 4) (nI ak_)))), (mw, .inl (tq.1, 7225, .inl was)), (su, .inl (tq.1, 6, .inl fu_))] H := hP
          have hD : va_D AA [(m0, .inr (8, [.ref ms, .ref mw, .int (nI st), .ref mt, .int xt, .int xa, .ref su, .ref pt, .ref td, .ref wy])), (ms, .inl (tq.1, 1445, .inl (upd s ((5 + (7 * ek_)) + 4) (nI ak_)))), (mw, .inl (tq.1, 7225, .inl was)), (su, .inl (tq.1, 6, .inl fu_))] := hD
          have ew : (upd s ((5 + (7 * ek_)) + 4) (nI ak_)) = (fgS s ek_ (nI ak_)) := rfl
          have hP : va_P dg vwCl [(m0, .inr (8, [.ref ms, .ref mw, .int (nI st), .ref mt, .int xt, .int xa, .ref su, .ref pt, .ref td, .ref wy])), (ms, .inl (tq.1, 1445, .inl (fgS s ek_ (nI ak_)))), (mw, .inl (tq.1, 7225, .inl was)), (su, .inl (tq.1, 6, .inl fu_))] H := by rw [← ew]; exact hP
          have hD : va_D AA [(m0, .inr (8, [.ref ms, .ref mw, .int (nI st), .ref mt, .int xt, .int xa, .ref su, .ref pt, .ref td, .ref wy])), (ms, .inl (tq.1, 1445, .inl (fgS s ek_ (nI ak_)))), (mw, .inl (tq.1, 7225, .inl was)), (su, .inl (tq.1, 6, .inl fu_))] := by rw [← ew]; exact hD
          refine lv_iconst (v := (nI 0)) hx hb dX8_forge_64 (by decide) ?_
          refine lv_istore (lv' := [(5, .int (nI 0)), (4, .int (me s ek_ 4)), (3, .int (nI ((5 + (7 * ek_)) + 4))), (0, .ref m0), (1, .int (nI ek_)), (2, .int (nI ak_))]) hx hb dX8_forge_65 hl (by decide) rfl (fun ls hl => ?_)
          have hl : lv_has ls 7 [(5, .int (bI false)), (4, .int (me s ek_ 4)), (3, .int (nI ((5 + (7 * ek_)) + 4))), (0, .ref m0), (1, .int (nI ek_)), (2, .int (nI ak_))] := by have el : (nI 0) = (bI false) := (rfl); rw [← el]; exact hl
          refine lv_iconst (v := (nI 0)) hx hb dX8_forge_67 (by decide) ?_
          refine lv_istore (lv' := [(6, .int (nI 0)), (5, .int (bI false)), (4, .int (me s ek_ 4)), (3, .int (nI ((5 + (7 * ek_)) + 4))), (0, .ref m0), (1, .int (nI ek_)), (2, .int (nI ak_))]) hx hb dX8_forge_68 hl (by decide) rfl (fun ls hl => ?_)
          have loop70 : ∀ (fu : Nat) (e_ : Nat) (b_ : Bool) (f_ : Row) (H : Heap) (locs : List Loc) (ls : Array Slot), (e_ ≤ nE s ∧ fgOK s ek_ (nI ak_) = (!b_ && allF (highB (fgS s ek_ (nI ak_))) e_ (nE s - e_))) → nE s - e_ < fu → va_P dg vwCl [(m0, .inr (8, [.ref ms, .ref mw, .int (nI st), .ref mt, .int xt, .int xa, .ref su, .ref pt, .ref td, .ref wy])), (ms, .inl (tq.1, 1445, .inl (fgS s ek_ (nI ak_)))), (mw, .inl (tq.1, 7225, .inl was)), (su, .inl (tq.1, 6, .inl f_))] H → va_D AA [(m0, .inr (8, [.ref ms, .ref mw, .int (nI st), .ref mt, .int xt, .int xa, .ref su, .ref pt, .ref td, .ref wy])), (ms, .inl (tq.1, 1445, .inl (fgS s ek_ (nI ak_)))), (mw, .inl (tq.1, 7225, .inl was)), (su, .inl (tq.1, 6, .inl f_))] → va_S AA sS.heap H locs → lv_has ls 7 [(0, .ref m0), (2, .int (nI ak_)), (3, .int (nI (5 + 7 * ek_ + 4))), (4, .int (me s ek_ 4)), (5, .int (bI b_)), (6, .int (nI e_))] → W pP ln eE (rmm 3 67) sS mM aA bB mT cC H locs 0 0 QQ (F0 mM 70 ls []) := by
            intro fu
            induction fu with
            | zero => intro e_ b_ f_ H locs ls _ hm; exact absurd hm (Nat.not_lt_zero _)
            | succ fu ih70 =>
              intro e_ b_ f_ H locs ls hinv hm hP hD hS hl
              obtain ⟨hi1, hi2⟩ := hinv
              refine lv_iload hx hb dX8_forge_70 (lv_at hl 5 rfl) ?_
              refine lv_aload_n hx hb dX8_forge_72 rfl (lv_at hl 0 rfl) ?_
              refine va_get (D := dg) (ci := 8) (v := .ref ms) (C := RX8) (T := TX8) (N := 10) hx hb hts in8 hown hK hP 0 rfl rfl 0 (by decide) f7 (fun _ h9 => h9) rfl dX8_forge_73 ?_
              refine lv_iconst (v := (nI 0)) hx hb dX8_forge_76 (by decide) ?_
              refine r_iald_n hx hb hK hP 1 rfl (k := 0) (by omega) (by omega) dX8_forge_77 ?_
              refine r_top (show ((fgS s ek_ (nI ak_)) 0) = (nI (nE s)) from by unfold fgS; rw [pk_un (by omega)]; exact hW.n) ?_
              refine r_icmp_ge (tgt := 104) hx hb (nI_tI (by omega)) (nI_tI (by omega)) dX8_forge_78 (by decide) (fun c78 => ?_) (fun c78 => ?_)
              · skip
                refine lv_aload_n hx hb dX8_forge_104 rfl (lv_at hl 0 rfl) ?_
                refine va_get (D := dg) (ci := 8) (v := .ref ms) (C := RX8) (T := TX8) (N := 10) hx hb hts in8 hown hK hP 0 rfl rfl 0 (by decide) f7 (fun _ h9 => h9) rfl dX8_forge_105 ?_
                refine lv_iload_n hx hb dX8_forge_108 rfl (lv_at hl 2 rfl) ?_
                refine lv_iload hx hb dX8_forge_109 (lv_at hl 3 rfl) ?_
                refine r_iast_n hx hb hK hP hD hS 1 rfl (k := (5 + 7 * ek_ + 4)) (by omega) (by omega) dX8_forge_111 (fun H locs hP hD hS => ?_)
                have hP : va_P dg vwCl [(m0, .inr (8, [.ref ms, .ref mw, .int (nI st), .ref mt, .int xt, .int xa, .ref su, .ref pt, .ref td, .ref wy])), (ms, .inl (tq.1, 1445, .inl (upd (fgS s ek_ (nI ak_)) (5 + 7 * ek_ + 4) (me s ek_ 4)))), (mw, .inl (tq.1, 7225, .inl was)), (su, .inl (tq.1, 6, .inl f_))] H := hP
                have hD : va_D AA [(m0, .inr (8, [.ref ms, .ref mw, .int (nI st), .ref mt, .int xt, .int xa, .ref su, .ref pt, .ref td, .ref wy])), (ms, .inl (tq.1, 1445, .inl (upd (fgS s ek_ (nI ak_)) (5 + 7 * ek_ + 4) (me s ek_ 4)))), (mw, .inl (tq.1, 7225, .inl was)), (su, .inl (tq.1, 6, .inl f_))] := hD
                have ew : (upd (fgS s ek_ (nI ak_)) (5 + 7 * ek_ + 4) (me s ek_ 4)) = s := fgS_back
                have hP : va_P dg vwCl [(m0, .inr (8, [.ref ms, .ref mw, .int (nI st), .ref mt, .int xt, .int xa, .ref su, .ref pt, .ref td, .ref wy])), (ms, .inl (tq.1, 1445, .inl s)), (mw, .inl (tq.1, 7225, .inl was)), (su, .inl (tq.1, 6, .inl f_))] H := by rw [← ew]; exact hP
                have hD : va_D AA [(m0, .inr (8, [.ref ms, .ref mw, .int (nI st), .ref mt, .int xt, .int xa, .ref su, .ref pt, .ref td, .ref wy])), (ms, .inl (tq.1, 1445, .inl s)), (mw, .inl (tq.1, 7225, .inl was)), (su, .inl (tq.1, 6, .inl f_))] := by rw [← ew]; exact hD
                refine lv_iload hx hb dX8_forge_112 (lv_at hl 4 rfl) ?_
                refine r_if_eq_b (tgt := 120) hx hb dX8_forge_114 (by decide) (fun c114 => ?_) (fun c114 => ?_)
                · skip
                  refine lv_aload_n hx hb dX8_forge_120 rfl (lv_at hl 0 rfl) ?_
                  refine call_v (wr := [(su, .inl (tq.1, 6, .inl f_))]) (va_runV (As := []) (rest := []) ⟨hx, hb, hml, hown, hts⟩ (kX8_records ln dg tq (m0 := m0) (ms := ms) (mw := mw) (mt := mt) (su := su) (pt := pt) (td := td) (wy := wy) (xt := xt) (xa := xa) (st := st) (hst := (by omega)) (s := s) (was := was) H.size) (cwV 0 hts gX8_forge_X8_records rfl rfl rfl hdX8_records ⟨Nat.le_of_ble_eq_true rfl, Nat.le_of_ble_eq_true rfl⟩) (preVB hK hN hP hD [0, 1, 2] rfl rfl rfl 0 rfl rfl []) rfl rfl hl.1 rfl (lv_room (Nat.le_of_ble_eq_true rfl)) dX8_forge_121 ⟨Nat.le_refl _, Nat.le_refl _⟩) hP hD hS hA [0, 1, 2] [3] rfl rfl (by decide) (by decide) (fun u121 H locs hw121 hP hD hS => ?_)
                  have hP : va_P dg vwCl [(su, .inl (tq.1, 6, .inl f_)), (m0, .inr (8, [.ref ms, .ref mw, .int (nI (recN st)), .ref mt, .int xt, .int xa, .ref su, .ref pt, .ref td, .ref wy])), (ms, .inl (tq.1, 1445, .inl s)), (mw, .inl (tq.1, 7225, .inl (recW was s st)))] H := hP
                  have hD : va_D AA [(su, .inl (tq.1, 6, .inl f_)), (m0, .inr (8, [.ref ms, .ref mw, .int (nI (recN st)), .ref mt, .int xt, .int xa, .ref su, .ref pt, .ref td, .ref wy])), (ms, .inl (tq.1, 1445, .inl s)), (mw, .inl (tq.1, 7225, .inl (recW was s st)))] := hD
                  refine lv_aload_n hx hb dX8_forge_124 rfl (lv_at hl 0 rfl) ?_
                  refine va_get (D := dg) (ci := 8) (v := .ref ms) (C := RX8) (T := TX8) (N := 10) hx hb hts in8 hown hK hP 1 rfl rfl 0 (by decide) f7 (fun _ h9 => h9) rfl dX8_forge_125 ?_
                  refine lv_iload_n hx hb dX8_forge_128 rfl (lv_at hl 2 rfl) ?_
                  refine lv_iload_n hx hb dX8_forge_129 rfl (lv_at hl 1 rfl) ?_
                  refine r_iast_n hx hb hK hP hD hS 2 rfl (k := (5 + 7 * ek_ + 4)) (by omega) (by omega) dX8_forge_130 (fun H locs hP hD hS => ?_)
                  have hP : va_P dg vwCl [(su, .inl (tq.1, 6, .inl f_)), (m0, .inr (8, [.ref ms, .ref mw, .int (nI (recN st)), .ref mt, .int xt, .int xa, .ref su, .ref pt, .ref td, .ref wy])), (ms, .inl (tq.1, 1445, .inl (upd s (5 + 7 * ek_ + 4) (nI ak_)))), (mw, .inl (tq.1, 7225, .inl (recW was s st)))] H := hP
                  have hD : va_D AA [(su, .inl (tq.1, 6, .inl f_)), (m0, .inr (8, [.ref ms, .ref mw, .int (nI (recN st)), .ref mt, .int xt, .int xa, .ref su, .ref pt, .ref td, .ref wy])), (ms, .inl (tq.1, 1445, .inl (upd s (5 + 7 * ek_ + 4) (nI ak_)))), (mw, .inl (tq.1, 7225, .inl (recW was s st)))] := hD
                  have ew : (upd s (5 + 7 * ek_ + 4) (nI ak_)) = (fgS s ek_ (nI ak_)) := rfl
                  have hP : va_P dg vwCl [(su, .inl (tq.1, 6, .inl f_)), (m0, .inr (8, [.ref ms, .ref mw, .int (nI (recN st)), .ref mt, .int xt, .int xa, .ref su, .ref pt, .ref td, .ref wy])), (ms, .inl (tq.1, 1445, .inl (fgS s ek_ (nI ak_)))), (mw, .inl (tq.1, 7225, .inl (recW was s st)))] H := by rw [← ew]; exact hP
                  have hD : va_D AA [(su, .inl (tq.1, 6, .inl f_)), (m0, .inr (8, [.ref ms, .ref mw, .int (nI (recN st)), .ref mt, .int xt, .int xa, .ref su, .ref pt, .ref td, .ref wy])), (ms, .inl (tq.1, 1445, .inl (fgS s ek_ (nI ak_)))), (mw, .inl (tq.1, 7225, .inl (recW was s st)))] := by rw [← ew]; exact hD
                  refine lv_iload hx hb dX8_forge_131 (lv_at hl 3 rfl) ?_
                  exact hret (me s ek_ 4) ((fgS s ek_ (nI ak_)), (recW was s st), (recN st), f_) H locs _ ls (show (me s ek_ 4) = (fgR s (nI ek_) (nI ak_)) ∧ (MACT s was st (fgO s (nI ek_) (nI ak_)) (fgS s (cl (nI ek_)) (nI ak_)) (fgS s ek_ (nI ak_)) (recW was s st) (recN st)) from (have e0 : fgP s (nI ek_) (nI ak_) = true := (by unfold fgP; rw [decide_eq_false hx0, c9, cl_n (show ek_ < 2147483648 by omega), if_pos (show kd s ek_ = 4 by show (me s ek_ 1).toInt = 4; omega), c34]; rfl); have e1 : fgOK s ek_ (nI ak_) = true := (by rw [hi2, c114, show nE s - e_ = 0 by omega]; rfl); ⟨by unfold fgR; rw [e0, if_pos rfl, cl_n (show ek_ < 2147483648 by omega), e1]; rfl, MACT.yes (by unfold fgO; rw [e0, cl_n (show ek_ < 2147483648 by omega), e1]; rfl) (by rw [cl_n (show ek_ < 2147483648 by omega)])⟩)) rfl (hP.sub [1, 2, 3, 0] rfl) (hD.sub [1, 2, 3, 0] (by decide) rfl) hS dX8_forge_133
                · skip
                  refine lv_ldc hx hb hown k71 dX8_forge_117 ?_
                  exact hret (-100002) (s, was, st, f_) H locs _ ls (show (-100002) = (fgR s (nI ek_) (nI ak_)) ∧ (MACT s was st (fgO s (nI ek_) (nI ak_)) (fgS s (cl (nI ek_)) (nI ak_)) s was st) from (have e0 : fgP s (nI ek_) (nI ak_) = true := (by unfold fgP; rw [decide_eq_false hx0, c9, cl_n (show ek_ < 2147483648 by omega), if_pos (show kd s ek_ = 4 by show (me s ek_ 1).toInt = 4; omega), c34]; rfl); have e1 : fgOK s ek_ (nI ak_) = false := (by rw [hi2, c114]; rfl); ⟨by unfold fgR; rw [e0, if_pos rfl, cl_n (show ek_ < 2147483648 by omega), e1]; rfl, MACT.no (by unfold fgO; rw [e0, cl_n (show ek_ < 2147483648 by omega), e1]; rfl)⟩)) rfl (hP.sub [0, 1, 2, 3] rfl) (hD.sub [0, 1, 2, 3] (by decide) rfl) hS dX8_forge_119
              · skip
                refine lv_iload hx hb dX8_forge_81 (lv_at hl 4 rfl) ?_
                refine r_if_ne_b (tgt := 104) hx hb dX8_forge_83 (by decide) (fun c83 => ?_) (fun c83 => ?_)
                · skip
                  refine lv_aload_n hx hb dX8_forge_104 rfl (lv_at hl 0 rfl) ?_
                  refine va_get (D := dg) (ci := 8) (v := .ref ms) (C := RX8) (T := TX8) (N := 10) hx hb hts in8 hown hK hP 0 rfl rfl 0 (by decide) f7 (fun _ h9 => h9) rfl dX8_forge_105 ?_
                  refine lv_iload_n hx hb dX8_forge_108 rfl (lv_at hl 2 rfl) ?_
                  refine lv_iload hx hb dX8_forge_109 (lv_at hl 3 rfl) ?_
                  refine r_iast_n hx hb hK hP hD hS 1 rfl (k := (5 + 7 * ek_ + 4)) (by omega) (by omega) dX8_forge_111 (fun H locs hP hD hS => ?_)
                  have hP : va_P dg vwCl [(m0, .inr (8, [.ref ms, .ref mw, .int (nI st), .ref mt, .int xt, .int xa, .ref su, .ref pt, .ref td, .ref wy])), (ms, .inl (tq.1, 1445, .inl (upd (fgS s ek_ (nI ak_)) (5 + 7 * ek_ + 4) (me s ek_ 4)))), (mw, .inl (tq.1, 7225, .inl was)), (su, .inl (tq.1, 6, .inl f_))] H := hP
                  have hD : va_D AA [(m0, .inr (8, [.ref ms, .ref mw, .int (nI st), .ref mt, .int xt, .int xa, .ref su, .ref pt, .ref td, .ref wy])), (ms, .inl (tq.1, 1445, .inl (upd (fgS s ek_ (nI ak_)) (5 + 7 * ek_ + 4) (me s ek_ 4)))), (mw, .inl (tq.1, 7225, .inl was)), (su, .inl (tq.1, 6, .inl f_))] := hD
                  have ew : (upd (fgS s ek_ (nI ak_)) (5 + 7 * ek_ + 4) (me s ek_ 4)) = s := fgS_back
                  have hP : va_P dg vwCl [(m0, .inr (8, [.ref ms, .ref mw, .int (nI st), .ref mt, .int xt, .int xa, .ref su, .ref pt, .ref td, .ref wy])), (ms, .inl (tq.1, 1445, .inl s)), (mw, .inl (tq.1, 7225, .inl was)), (su, .inl (tq.1, 6, .inl f_))] H := by rw [← ew]; exact hP
                  have hD : va_D AA [(m0, .inr (8, [.ref ms, .ref mw, .int (nI st), .ref mt, .int xt, .int xa, .ref su, .ref pt, .ref td, .ref wy])), (ms, .inl (tq.1, 1445, .inl s)), (mw, .inl (tq.1, 7225, .inl was)), (su, .inl (tq.1, 6, .inl f_))] := by rw [← ew]; exact hD
                  refine lv_iload hx hb dX8_forge_112 (lv_at hl 4 rfl) ?_
                  refine r_if_eq_b (tgt := 120) hx hb dX8_forge_114 (by decide) (fun c114 => False.elim (by rw [c83] at c114; cases c114)) (fun c114 => ?_)
                  refine lv_ldc hx hb hown k71 dX8_forge_117 ?_
                  exact hret (-100002) (s, was, st, f_) H locs _ ls (show (-100002) = (fgR s (nI ek_) (nI ak_)) ∧ (MACT s was st (fgO s (nI ek_) (nI ak_)) (fgS s (cl (nI ek_)) (nI ak_)) s was st) from (have e0 : fgP s (nI ek_) (nI ak_) = true := (by unfold fgP; rw [decide_eq_false hx0, c9, cl_n (show ek_ < 2147483648 by omega), if_pos (show kd s ek_ = 4 by show (me s ek_ 1).toInt = 4; omega), c34]; rfl); have e1 : fgOK s ek_ (nI ak_) = false := (by rw [hi2, c83]; rfl); ⟨by unfold fgR; rw [e0, if_pos rfl, cl_n (show ek_ < 2147483648 by omega), e1]; rfl, MACT.no (by unfold fgO; rw [e0, cl_n (show ek_ < 2147483648 by omega), e1]; rfl)⟩)) rfl (hP.sub [0, 1, 2, 3] rfl) (hD.sub [0, 1, 2, 3] (by decide) rfl) hS dX8_forge_119
                · skip
                  refine lv_aload_n hx hb dX8_forge_86 rfl (lv_at hl 0 rfl) ?_
                  refine lv_iload hx hb dX8_forge_87 (lv_at hl 5 rfl) ?_
                  refine call_v (wr := [(mw, .inl (tq.1, 7225, .inl was))]) (va_runV (As := [.int (nI e_)]) (rest := []) ⟨hx, hb, hml, hown, hts⟩ (kX8_balances__g ln dg tq (m0 := m0) (ms := ms) (mw := mw) (mt := mt) (su := su) (pt := pt) (td := td) (wy := wy) (xs := (nI st)) (xt := xt) (xa := xa) (s := fgS s ek_ (nI ak_)) (f := f_) (hW := hWG) (y := e_) (hy := (by rw [eN]; omega)) H.size) (cwV 1 hts gX8_forge_X8_balances rfl rfl rfl hdX8_balances ⟨Nat.le_of_ble_eq_true rfl, Nat.le_of_ble_eq_true rfl⟩) (preVB hK hN hP hD [0, 1, 3] rfl rfl rfl 0 rfl rfl [.int (nI e_)]) rfl rfl hl.1 rfl (lv_room (Nat.le_of_ble_eq_true rfl)) dX8_forge_89 ⟨Nat.le_refl _, Nat.le_refl _⟩) hP hD hS hA [0, 1, 3] [2] rfl rfl (by decide) (by decide) (fun u89 H locs hw89 hP hD hS => ?_)
                  obtain ⟨g89, rfl⟩ : ∃ z, z = u89 := ⟨_, rfl⟩
                  have hP : va_P dg vwCl [(mw, .inl (tq.1, 7225, .inl was)), (m0, .inr (8, [.ref ms, .ref mw, .int (nI st), .ref mt, .int xt, .int xa, .ref su, .ref pt, .ref td, .ref wy])), (ms, .inl (tq.1, 1445, .inl (fgS s ek_ (nI ak_)))), (su, .inl (tq.1, 6, .inl g89))] H := hP
                  have hD : va_D AA [(mw, .inl (tq.1, 7225, .inl was)), (m0, .inr (8, [.ref ms, .ref mw, .int (nI st), .ref mt, .int xt, .int xa, .ref su, .ref pt, .ref td, .ref wy])), (ms, .inl (tq.1, 1445, .inl (fgS s ek_ (nI ak_)))), (su, .inl (tq.1, 6, .inl g89))] := hD
                  refine lv_aload_n hx hb dX8_forge_92 rfl (lv_at hl 0 rfl) ?_
                  refine call_x (va_runV (As := []) (rest := []) ⟨hx, hb, hml, hown, hts⟩ (kX8_isLow ln dg tq (m0 := m0) (ms := ms) (mw := mw) (mt := mt) (su := su) (pt := pt) (td := td) (wy := wy) (xs := (nI st)) (xt := xt) (xa := xa) (f := g89) (v := bal (fgS s ek_ (nI ak_)) e_) (hV := hw89) (hr := (fun a ha => fg_rng hW hek0 hek (by rw [nI_tI (by omega)]; omega) (by rw [nI_tI (by omega)]; omega) (by omega) ha)) H.size) (cwV 0 hts gX8_forge_X8_isLow rfl rfl rfl hdX8_isLow ⟨Nat.le_of_ble_eq_true rfl, Nat.le_of_ble_eq_true rfl⟩) (preVR hK hN hP [1, 3] rfl 1 rfl rfl []) rfl rfl hl.1 rfl (lv_room (Nat.le_of_ble_eq_true rfl)) dX8_forge_93 ⟨Nat.le_refl _, Nat.le_refl _⟩) hP hS hA (fun H locs hP hS => ?_)
                  refine r_top (show (bI (lowV (bal (fgS s ek_ (nI ak_)) e_))) = (bI (!highB (fgS s ek_ (nI ak_)) e_)) from rfl) ?_
                  refine lv_istore (lv' := [(5, .int (bI (!highB (fgS s ek_ (nI ak_)) e_))), (0, .ref m0), (2, .int (nI ak_)), (3, .int (nI (5 + 7 * ek_ + 4))), (4, .int (me s ek_ 4)), (6, .int (nI e_))]) hx hb dX8_forge_96 hl (by decide) rfl (fun ls hl => ?_)
                  refine lv_iinc (v := (nI (e_ + 1))) (lv' := [(6, .int (nI (e_ + 1))), (5, .int (bI (!highB (fgS s ek_ (nI ak_)) e_))), (0, .ref m0), (2, .int (nI ak_)), (3, .int (nI (5 + 7 * ek_ + 4))), (4, .int (me s ek_ 4))]) hx hb dX8_forge_98 hl (k := 5) rfl (nI_add _ _) (by decide) rfl (fun ls hl => ?_)
                  refine lv_goto (tgt := 70) hx hb dX8_forge_101 (by decide) ?_
                  exact ih70 (e_ + 1) (!highB (fgS s ek_ (nI ak_)) e_) g89 H locs ls (⟨by omega, by rw [hi2, c83, show nE s - e_ = (nE s - (e_ + 1)) + 1 by omega, allF, Bool.not_not, Bool.not_false, Bool.true_and]⟩) (by omega) (hP.sub [1, 2, 0, 3] rfl) (hD.sub [1, 2, 0, 3] (by decide) rfl) hS (lv_sub hl [2, 3, 4, 5, 1, 0] rfl)
          exact loop70 _ 0 false fu_ H locs ls (⟨by omega, by unfold fgOK; simp⟩) (Nat.lt_succ_self _) (hP.sub [0, 1, 2, 3] rfl) (hD.sub [0, 1, 2, 3] (by decide) rfl) hS (lv_sub hl [4, 6, 3, 2, 1, 0] rfl)
        · skip
          refine lv_ldc hx hb hown k84 dX8_forge_37 ?_
          exact hret (-100001) (s, was, st, fu_) H locs _ ls (show (-100001) = (fgR s (nI ek_) a) ∧ (MACT s was st (fgO s (nI ek_) a) (fgS s (cl (nI ek_)) a) s was st) from (have e0 : fgP s (nI ek_) a = false := (by unfold fgP; rw [decide_eq_false hx0, c9, cl_n (show ek_ < 2147483648 by omega), if_pos (show kd s ek_ = 4 by show (me s ek_ 1).toInt = 4; omega), c34]; rfl); ⟨by unfold fgR; rw [e0]; rfl, MACT.no (by unfold fgO; rw [e0]; rfl)⟩)) rfl (hP.sub [0, 1, 2, 3] rfl) (hD.sub [0, 1, 2, 3] (by decide) rfl) hS dX8_forge_39
theorem hdX8_adopt : yX8_adopt.cls = RX8 ∧ yX8_adopt.cls ≠ "java/lang/invoke/MethodHandle" ∧ yX8_adopt.cls ≠ "java/lang/invoke/VarHandle" ∧ (parseMethodDescriptor yX8_adopt.desc).map (fun d => d.parameters.length) = some 2 := by decide +kernel
set_option maxHeartbeats 4000000 in
set_option maxRecDepth 100000 in
theorem kX8_adopt (ln : Launch) (dg : va_G) (tq : ClassId × ClassId) (m0 ms mw mt su pt td wy : Nat) (xt xa : Int32) (st : Nat) (hst : st ≤ 5) (s was : Row) (hW : WF s) (fu_ pp : Row) (x how : Int32) : MW ln yX8_adopt wsX8_adopt (rmm 4 92) dg tq [.ref m0, .int x, .int how] [(m0, .inr (8, [.ref ms, .ref mw, .int (nI st), .ref mt, .int xt, .int xa, .ref su, .ref pt, .ref td, .ref wy])), (ms, .inl (tq.1, 1445, .inl s)), (mw, .inl (tq.1, 7225, .inl was)), (su, .inl (tq.1, 6, .inl fu_)), (pt, .inl (tq.1, 60, .inl pp))] (fun (r : Int32) (u : Row × Row × Nat × Row × Row) => r = (adR s x how) ∧ (MACT s was st (adO s x how) (adS s x) u.1 u.2.1 u.2.2.1)) (fun u => [(m0, .inr (8, [.ref ms, .ref mw, .int (nI u.2.2.1), .ref mt, .int xt, .int xa, .ref su, .ref pt, .ref td, .ref wy])), (ms, .inl (tq.1, 1445, .inl u.1)), (mw, .inl (tq.1, 7225, .inl u.2.1)), (su, .inl (tq.1, 6, .inl u.2.2.2.1)), (pt, .inl (tq.1, 60, .inl u.2.2.2.2))]) := by
  refine MW.enter cX8_adopt 6 .int (by decide) rfl rfl (Nat.le_of_ble_eq_true rfl) ?_
  intro pP eE sS mM aA bB mT cC QQ AA hA hAT hret H locs hP hD hS ls hl
  obtain ⟨hx, hb, hml, hown, hts, hK, hN⟩ := hAT
  have hown : sS.vm.findClass RX8 = some mM.cls := hown
  have hl : lv_has ls 6 [(0, .ref m0), (1, .int x), (2, .int how)] := hl
  have in8 : ∀ w ∈ u_ws RX8 TX8 10, w ∈ wsX8_adopt := (fun _ h9 => List.mem_cons_of_mem _ (List.mem_append_right _ h9))
  have k84 := hts (.constant RX8 84 (-100001)) (List.mem_of_getElem? (i := 1) rfl)
  have f7 := hts (.fieldLink RX8 7 "OrphanChainModel" "s" "[I") (List.mem_of_getElem? (i := 2) rfl)
  have k71 := hts (.constant RX8 71 (-100002)) (List.mem_of_getElem? (i := 3) rfl)
  have f23 := hts (.fieldLink RX8 23 "OrphanChainModel" "path" "[I") (List.mem_of_getElem? (i := 5) rfl)
  have k72 := hts (.constant RX8 72 (-100003)) (List.mem_of_getElem? (i := 4) rfl)
  have hn60 := hW.n60
  have hb10 := hW.b10
  have hs8 := hW.s8
  have hhn := hW.hn
  refine lv_aload_n hx hb dX8_adopt_0 rfl (lv_at hl 0 rfl) ?_
  refine lv_iload_n hx hb dX8_adopt_1 rfl (lv_at hl 1 rfl) ?_
  refine call_x (va_runV (As := [.int x]) (rest := []) ⟨hx, hb, hml, hown, hts⟩ (kX8_isBranch ln dg tq (m0 := m0) (ms := ms) (mw := mw) (mt := mt) (su := su) (pt := pt) (td := td) (wy := wy) (xs := (nI st)) (xt := xt) (xa := xa) (s := s) (hW := hW) (x := x) H.size) (cwV 1 hts gX8_adopt_X8_isBranch rfl rfl rfl hdX8_isBranch ⟨Nat.le_of_ble_eq_true rfl, Nat.le_of_ble_eq_true rfl⟩) (preVR hK hN hP [0, 1] rfl 0 rfl rfl [.int x]) rfl rfl hl.1 rfl (lv_room (Nat.le_of_ble_eq_true rfl)) dX8_adopt_2 ⟨Nat.le_refl _, Nat.le_refl _⟩) hP hS hA (fun H locs hP hS => ?_)
  refine r_if_eq_b (tgt := 17) hx hb dX8_adopt_5 (by decide) (fun c5 => ?_) (fun c5 => ?_)
  · skip
    refine lv_ldc hx hb hown k84 dX8_adopt_17 ?_
    exact hret (-100001) (s, was, st, fu_, pp) H locs _ ls (show (-100001) = (adR s x how) ∧ (MACT s was st (adO s x how) (adS s x) s was st) from (have e0 : adP s x how = false := (by unfold adP; rw [c5, Bool.false_and]); ⟨by unfold adR; rw [e0]; rfl, MACT.no (by unfold adO; rw [e0]; rfl)⟩)) rfl (hP.sub [0, 1, 2, 3, 4] rfl) (hD.sub [0, 1, 2, 3, 4] (by decide) rfl) hS dX8_adopt_19
  · skip
    refine lv_iload_n hx hb dX8_adopt_8 rfl (lv_at hl 2 rfl) ?_
    refine lv_iconst (v := (nI 0)) hx hb dX8_adopt_9 (by decide) ?_
    refine lv_iconst (v := (nI 1)) hx hb dX8_adopt_10 (by decide) ?_
    refine call_x (va_runS (As := [.int how, .int (nI 0), .int (nI 1)]) (rest := []) ⟨hx, hb, hml, hown, hts⟩ (kX8_in ln dg tq (v := how) (lo := (nI 0)) (hi := (nI 1)) H.size) (va_cwS 3 hts gX8_adopt_X8_in rfl rfl rfl hdX8_in.2 ⟨Nat.le_of_ble_eq_true rfl, Nat.le_of_ble_eq_true rfl⟩) (preS0 hK hN [.int how, .int (nI 0), .int (nI 1)]) rfl rfl hl.1 rfl (lv_room (Nat.le_of_ble_eq_true rfl)) dX8_adopt_11 ⟨Nat.le_refl _, Nat.le_refl _⟩) hP hS hA (fun H locs hP hS => ?_)
    refine r_if_ne_b (tgt := 20) hx hb dX8_adopt_14 (by decide) (fun c14 => ?_) (fun c14 => ?_)
    · skip
      obtain ⟨bk_, hbk, rfl⟩ := hasN_t c5
      have hlf := hW.lfl hbk
      have hmn := hW.mn60 hbk
      refine lv_aload_n hx hb dX8_adopt_20 rfl (lv_at hl 0 rfl) ?_
      refine lv_aload_n hx hb dX8_adopt_21 rfl (lv_at hl 0 rfl) ?_
      refine va_get (D := dg) (ci := 8) (v := .ref ms) (C := RX8) (T := TX8) (N := 10) hx hb hts in8 hown hK hP 0 rfl rfl 0 (by decide) f7 (fun _ h9 => h9) rfl dX8_adopt_22 ?_
      refine lv_iconst (v := (nI 1)) hx hb dX8_adopt_25 (by decide) ?_
      refine r_iald_n hx hb hK hP 1 rfl (k := 1) (by omega) (by omega) dX8_adopt_26 ?_
      refine r_top (show (s 1) = (nI (hE s)) from (hW.h)) ?_
      refine call_v (wr := [(mw, .inl (tq.1, 7225, .inl was)), (pt, .inl (tq.1, 60, .inl pp))]) (va_runV (As := [.int (nI (hE s))]) (rest := []) ⟨hx, hb, hml, hown, hts⟩ (kX8_balances ln dg tq (m0 := m0) (ms := ms) (mw := mw) (mt := mt) (su := su) (pt := pt) (td := td) (wy := wy) (xs := (nI st)) (xt := xt) (xa := xa) (s := s) (f := fu_) (hW := hW) (y := hE s) (hy := (by omega)) H.size) (cwV 1 hts gX8_adopt_X8_balances rfl rfl rfl hdX8_balances ⟨Nat.le_of_ble_eq_true rfl, Nat.le_of_ble_eq_true rfl⟩) (preVB hK hN hP hD [0, 1, 3] rfl rfl rfl 0 rfl rfl [.int (nI (hE s))]) rfl rfl hl.1 rfl (lv_room (Nat.le_of_ble_eq_true rfl)) dX8_adopt_27 ⟨Nat.le_refl _, Nat.le_refl _⟩) hP hD hS hA [0, 1, 3] [2, 4] rfl rfl (by decide) (by decide) (fun u27 H locs hw27 hP hD hS => ?_)
      obtain ⟨g27, rfl⟩ : ∃ z, z = u27 := ⟨_, rfl⟩
      have hP : va_P dg vwCl [(mw, .inl (tq.1, 7225, .inl was)), (pt, .inl (tq.1, 60, .inl pp)), (m0, .inr (8, [.ref ms, .ref mw, .int (nI st), .ref mt, .int xt, .int xa, .ref su, .ref pt, .ref td, .ref wy])), (ms, .inl (tq.1, 1445, .inl s)), (su, .inl (tq.1, 6, .inl g27))] H := hP
      have hD : va_D AA [(mw, .inl (tq.1, 7225, .inl was)), (pt, .inl (tq.1, 60, .inl pp)), (m0, .inr (8, [.ref ms, .ref mw, .int (nI st), .ref mt, .int xt, .int xa, .ref su, .ref pt, .ref td, .ref wy])), (ms, .inl (tq.1, 1445, .inl s)), (su, .inl (tq.1, 6, .inl g27))] := hD
      refine lv_aload_n hx hb dX8_adopt_30 rfl (lv_at hl 0 rfl) ?_
      refine lv_iload_n hx hb dX8_adopt_31 rfl (lv_at hl 1 rfl) ?_
      refine call_w (wr := [(mw, .inl (tq.1, 7225, .inl was))]) (va_runV (As := [.int (nI bk_)]) (rest := []) ⟨hx, hb, hml, hown, hts⟩ (kX8_tries ln dg tq (m0 := m0) (ms := ms) (mw := mw) (mt := mt) (su := su) (pt := pt) (td := td) (wy := wy) (xs := (nI st)) (xt := xt) (xa := xa) (s := s) (f := g27) (pp := pp) (hW := hW) (b := bk_) (hb0 := (by omega)) (v := bal s (hE s)) (hV := hw27) (N := 58941) (hB := (bal_bd hW hhn)) (hn9 := (by omega)) H.size) (cwV 1 hts gX8_adopt_X8_tries rfl rfl rfl hdX8_tries ⟨Nat.le_of_ble_eq_true rfl, Nat.le_of_ble_eq_true rfl⟩) (preVB hK hN hP hD [2, 3, 4, 1] rfl rfl rfl 2 rfl rfl [.int (nI bk_)]) rfl rfl hl.1 rfl (lv_room (Nat.le_of_ble_eq_true rfl)) dX8_adopt_32 ⟨Nat.le_refl _, Nat.le_refl _⟩) hP hD hS hA [2, 3, 4, 1] [0] rfl rfl (by decide) (by decide) (fun r32 u32 H locs hw32 hP hD hS => ?_)
      obtain ⟨g32, p232⟩ := u32
      have hP : va_P dg vwCl [(mw, .inl (tq.1, 7225, .inl was)), (m0, .inr (8, [.ref ms, .ref mw, .int (nI st), .ref mt, .int xt, .int xa, .ref su, .ref pt, .ref td, .ref wy])), (ms, .inl (tq.1, 1445, .inl s)), (su, .inl (tq.1, 6, .inl g32)), (pt, .inl (tq.1, 60, .inl p232))] H := hP
      have hD : va_D AA [(mw, .inl (tq.1, 7225, .inl was)), (m0, .inr (8, [.ref ms, .ref mw, .int (nI st), .ref mt, .int xt, .int xa, .ref su, .ref pt, .ref td, .ref wy])), (ms, .inl (tq.1, 1445, .inl s)), (su, .inl (tq.1, 6, .inl g32)), (pt, .inl (tq.1, 60, .inl p232))] := hD
      obtain ⟨hr32, hw32⟩ := hw32
      subst hr32
      refine r_top (show (nI (trN s (bal s (hE s)) (brE s bk_) (mn s bk_))) = (nI (adN s bk_)) from rfl) ?_
      refine lv_istore_n (lv' := [(3, .int (nI (adN s bk_))), (0, .ref m0), (1, .int (nI bk_)), (2, .int how)]) hx hb dX8_adopt_35 rfl hl (by decide) rfl (fun ls hl => ?_)
      have htn : adN s bk_ ≤ mn s bk_ := trN_le s (bal s (hE s)) (brE s bk_) (mn s bk_)
      refine lv_aload_n hx hb dX8_adopt_36 rfl (lv_at hl 1 rfl) ?_
      refine lv_iload_n hx hb dX8_adopt_37 rfl (lv_at hl 2 rfl) ?_
      refine call_x (va_runV (As := [.int (nI bk_)]) (rest := []) ⟨hx, hb, hml, hown, hts⟩ (kX8_isWaiting ln dg tq (m0 := m0) (ms := ms) (mw := mw) (mt := mt) (su := su) (pt := pt) (td := td) (wy := wy) (xs := (nI st)) (xt := xt) (xa := xa) (s := s) (b := bk_) (hb0 := (by omega)) H.size) (cwV 1 hts gX8_adopt_X8_isWaiting rfl rfl rfl hdX8_isWaiting ⟨Nat.le_of_ble_eq_true rfl, Nat.le_of_ble_eq_true rfl⟩) (preVR hK hN hP [1, 2] rfl 1 rfl rfl [.int (nI bk_)]) rfl rfl hl.1 rfl (lv_room (Nat.le_of_ble_eq_true rfl)) dX8_adopt_38 ⟨Nat.le_refl _, Nat.le_refl _⟩) hP hS hA (fun H locs hP hS => ?_)
      refine r_if_eq_b (tgt := 58) hx hb dX8_adopt_41 (by decide) (fun c41 => ?_) (fun c41 => ?_)
      · skip
        refine lv_ldc hx hb hown k71 dX8_adopt_58 ?_
        exact hret (-100002) (s, was, st, g32, p232) H locs _ ls (show (-100002) = (adR s (nI bk_) how) ∧ (MACT s was st (adO s (nI bk_) how) (adS s (nI bk_)) s was st) from (have e0 : adP s (nI bk_) how = true := (by unfold adP; rw [c5, c14]; rfl); have e1 : adX s bk_ how = false := (by unfold adX; rw [c41]; rfl); ⟨by unfold adR; rw [e0, if_pos rfl, cl_n (show bk_ < 2147483648 by omega), e1]; rfl, MACT.no (by unfold adO; rw [e0, cl_n (show bk_ < 2147483648 by omega), e1]; rfl)⟩)) rfl (hP.sub [1, 2, 0, 3, 4] rfl) (hD.sub [1, 2, 0, 3, 4] (by decide) rfl) hS dX8_adopt_60
      · skip
        refine lv_iload_n hx hb dX8_adopt_44 rfl (lv_at hl 3 rfl) ?_
        refine r_if_ne (tgt := 61) hx hb rfl dX8_adopt_45 (by decide) (fun c45 => ?_) (fun c45 => ?_)
        · skip
          refine lv_aload_n hx hb dX8_adopt_61 rfl (lv_at hl 1 rfl) ?_
          refine va_get (D := dg) (ci := 8) (v := .ref ms) (C := RX8) (T := TX8) (N := 10) hx hb hts in8 hown hK hP 1 rfl rfl 0 (by decide) f7 (fun _ h9 => h9) rfl dX8_adopt_62 ?_
          refine lv_iconst (v := (nI 0)) hx hb dX8_adopt_65 (by decide) ?_
          refine r_iald_n hx hb hK hP 2 rfl (k := 0) (by omega) (by omega) dX8_adopt_66 ?_
          refine r_top (show (s 0) = (nI (nE s)) from (hW.n)) ?_
          refine lv_iload_n hx hb dX8_adopt_67 rfl (lv_at hl 0 rfl) ?_
          refine r_iadd_n hx hb dX8_adopt_68 ?_
          refine lv_bipush (v := (nI 60)) hx hb dX8_adopt_69 (by decide) ?_
          refine r_icmp_le (tgt := 77) hx hb (nI_tI (by omega)) (nI_tI (by omega)) dX8_adopt_71 (by decide) (fun c71 => ?_) (fun c71 => ?_)
          · skip
            refine lv_aload_n hx hb dX8_adopt_77 rfl (lv_at hl 1 rfl) ?_
            refine call_v (wr := [(su, .inl (tq.1, 6, .inl g32)), (pt, .inl (tq.1, 60, .inl p232))]) (va_runV (As := []) (rest := []) ⟨hx, hb, hml, hown, hts⟩ (kX8_records ln dg tq (m0 := m0) (ms := ms) (mw := mw) (mt := mt) (su := su) (pt := pt) (td := td) (wy := wy) (xt := xt) (xa := xa) (st := st) (hst := (by omega)) (s := s) (was := was) H.size) (cwV 0 hts gX8_adopt_X8_records rfl rfl rfl hdX8_records ⟨Nat.le_of_ble_eq_true rfl, Nat.le_of_ble_eq_true rfl⟩) (preVB hK hN hP hD [1, 2, 0] rfl rfl rfl 1 rfl rfl []) rfl rfl hl.1 rfl (lv_room (Nat.le_of_ble_eq_true rfl)) dX8_adopt_78 ⟨Nat.le_refl _, Nat.le_refl _⟩) hP hD hS hA [1, 2, 0] [3, 4] rfl rfl (by decide) (by decide) (fun u78 H locs hw78 hP hD hS => ?_)
            have hP : va_P dg vwCl [(su, .inl (tq.1, 6, .inl g32)), (pt, .inl (tq.1, 60, .inl p232)), (m0, .inr (8, [.ref ms, .ref mw, .int (nI (recN st)), .ref mt, .int xt, .int xa, .ref su, .ref pt, .ref td, .ref wy])), (ms, .inl (tq.1, 1445, .inl s)), (mw, .inl (tq.1, 7225, .inl (recW was s st)))] H := hP
            have hD : va_D AA [(su, .inl (tq.1, 6, .inl g32)), (pt, .inl (tq.1, 60, .inl p232)), (m0, .inr (8, [.ref ms, .ref mw, .int (nI (recN st)), .ref mt, .int xt, .int xa, .ref su, .ref pt, .ref td, .ref wy])), (ms, .inl (tq.1, 1445, .inl s)), (mw, .inl (tq.1, 7225, .inl (recW was s st)))] := hD
            refine lv_iconst (v := (nI 0)) hx hb dX8_adopt_81 (by decide) ?_
            refine lv_istore (lv' := [(4, .int (nI 0)), (3, .int (nI (adN s bk_))), (0, .ref m0), (1, .int (nI bk_)), (2, .int how)]) hx hb dX8_adopt_82 hl (by decide) rfl (fun ls hl => ?_)
            have loop84 : ∀ (fu : Nat) (k_ : Nat) (x_ : Row) (H : Heap) (locs : List Loc) (ls : Array Slot), (k_ ≤ adN s bk_ ∧ x_ = wK s bk_ k_) → adN s bk_ - k_ < fu → va_P dg vwCl [(m0, .inr (8, [.ref ms, .ref mw, .int (nI (recN st)), .ref mt, .int xt, .int xa, .ref su, .ref pt, .ref td, .ref wy])), (ms, .inl (tq.1, 1445, .inl x_)), (mw, .inl (tq.1, 7225, .inl (recW was s st))), (su, .inl (tq.1, 6, .inl g32)), (pt, .inl (tq.1, 60, .inl p232))] H → va_D AA [(m0, .inr (8, [.ref ms, .ref mw, .int (nI (recN st)), .ref mt, .int xt, .int xa, .ref su, .ref pt, .ref td, .ref wy])), (ms, .inl (tq.1, 1445, .inl x_)), (mw, .inl (tq.1, 7225, .inl (recW was s st))), (su, .inl (tq.1, 6, .inl g32)), (pt, .inl (tq.1, 60, .inl p232))] → va_S AA sS.heap H locs → lv_has ls 6 [(0, .ref m0), (1, .int (nI bk_)), (3, .int (nI (adN s bk_))), (4, .int (nI k_))] → W pP ln eE (rmm 4 92) sS mM aA bB mT cC H locs 0 0 QQ (F0 mM 84 ls []) := by
              intro fu
              induction fu with
              | zero => intro k_ x_ H locs ls _ hm; exact absurd hm (Nat.not_lt_zero _)
              | succ fu ih84 =>
                intro k_ x_ H locs ls hinv hm hP hD hS hl
                obtain ⟨hi1, hi2⟩ := hinv
                refine lv_iload hx hb dX8_adopt_84 (lv_at hl 3 rfl) ?_
                refine lv_iload_n hx hb dX8_adopt_86 rfl (lv_at hl 2 rfl) ?_
                refine r_icmp_ge (tgt := 140) hx hb (nI_tI (by omega)) (nI_tI (by omega)) dX8_adopt_87 (by decide) (fun c87 => ?_) (fun c87 => ?_)
                · skip
                  have ew : x_ = (wF s bk_ (mn s bk_)) := by rw [hi2, wF_K s bk_ _ (Nat.le_refl _), show k_ = adN s bk_ by omega]; rfl
                  have hP : va_P dg vwCl [(m0, .inr (8, [.ref ms, .ref mw, .int (nI (recN st)), .ref mt, .int xt, .int xa, .ref su, .ref pt, .ref td, .ref wy])), (ms, .inl (tq.1, 1445, .inl (wF s bk_ (mn s bk_)))), (mw, .inl (tq.1, 7225, .inl (recW was s st))), (su, .inl (tq.1, 6, .inl g32)), (pt, .inl (tq.1, 60, .inl p232))] H := by rw [← ew]; exact hP
                  have hD : va_D AA [(m0, .inr (8, [.ref ms, .ref mw, .int (nI (recN st)), .ref mt, .int xt, .int xa, .ref su, .ref pt, .ref td, .ref wy])), (ms, .inl (tq.1, 1445, .inl (wF s bk_ (mn s bk_)))), (mw, .inl (tq.1, 7225, .inl (recW was s st))), (su, .inl (tq.1, 6, .inl g32)), (pt, .inl (tq.1, 60, .inl p232))] := by rw [← ew]; exact hD
                  refine lv_aload_n hx hb dX8_adopt_140 rfl (lv_at hl 0 rfl) ?_
                  refine va_get (D := dg) (ci := 8) (v := .ref ms) (C := RX8) (T := TX8) (N := 10) hx hb hts in8 hown hK hP 0 rfl rfl 0 (by decide) f7 (fun _ h9 => h9) rfl dX8_adopt_141 ?_
                  refine lv_sipush (v := (nI 425)) hx hb dX8_adopt_144 (by decide) ?_
                  refine lv_iconst (v := (nI 4)) hx hb dX8_adopt_147 (by decide) ?_
                  refine lv_iload_n hx hb dX8_adopt_148 rfl (lv_at hl 1 rfl) ?_
                  refine r_imul_n hx hb dX8_adopt_149 ?_
                  refine r_iadd_n hx hb dX8_adopt_150 ?_
                  refine lv_iconst (v := (nI 3)) hx hb dX8_adopt_151 (by decide) ?_
                  refine r_iadd_n hx hb dX8_adopt_152 ?_
                  refine lv_iconst (v := (nI 2)) hx hb dX8_adopt_153 (by decide) ?_
                  refine r_iast_n hx hb hK hP hD hS 1 rfl (k := ((425 + (4 * bk_)) + 3)) (by omega) (by omega) dX8_adopt_154 (fun H locs hP hD hS => ?_)
                  have hP : va_P dg vwCl [(m0, .inr (8, [.ref ms, .ref mw, .int (nI (recN st)), .ref mt, .int xt, .int xa, .ref su, .ref pt, .ref td, .ref wy])), (ms, .inl (tq.1, 1445, .inl (upd (wF s bk_ (mn s bk_)) ((425 + (4 * bk_)) + 3) (nI 2)))), (mw, .inl (tq.1, 7225, .inl (recW was s st))), (su, .inl (tq.1, 6, .inl g32)), (pt, .inl (tq.1, 60, .inl p232))] H := hP
                  have hD : va_D AA [(m0, .inr (8, [.ref ms, .ref mw, .int (nI (recN st)), .ref mt, .int xt, .int xa, .ref su, .ref pt, .ref td, .ref wy])), (ms, .inl (tq.1, 1445, .inl (upd (wF s bk_ (mn s bk_)) ((425 + (4 * bk_)) + 3) (nI 2)))), (mw, .inl (tq.1, 7225, .inl (recW was s st))), (su, .inl (tq.1, 6, .inl g32)), (pt, .inl (tq.1, 60, .inl p232))] := hD
                  refine lv_iload_n hx hb dX8_adopt_155 rfl (lv_at hl 2 rfl) ?_
                  exact hret (nI (adN s bk_)) ((upd (wF s bk_ (mn s bk_)) ((425 + (4 * bk_)) + 3) (nI 2)), (recW was s st), (recN st), g32, p232) H locs _ ls (show (nI (adN s bk_)) = (adR s (nI bk_) how) ∧ (MACT s was st (adO s (nI bk_) how) (adS s (nI bk_)) (upd (wF s bk_ (mn s bk_)) ((425 + (4 * bk_)) + 3) (nI 2)) (recW was s st) (recN st)) from (have e0 : adP s (nI bk_) how = true := (by unfold adP; rw [c5, c14]; rfl); have e1 : adX s bk_ how = true := (by unfold adX; rw [c41, decide_eq_false (show ¬ how = nI 0 from fun z => c45 (by rw [z]; rfl))]; rfl); ⟨by unfold adR; rw [e0, if_pos rfl, cl_n (show bk_ < 2147483648 by omega), e1, if_pos rfl, if_neg (by omega)], MACT.yes (by unfold adO; rw [e0, cl_n (show bk_ < 2147483648 by omega), e1, decide_eq_false (show ¬ 60 < nE s + adN s bk_ by omega)]; rfl) (by unfold adS; rw [cl_n (show bk_ < 2147483648 by omega)])⟩)) rfl (hP.sub [0, 1, 2, 3, 4] rfl) (hD.sub [0, 1, 2, 3, 4] (by decide) rfl) hS dX8_adopt_156
                · skip
                  obtain ⟨hW2, hSE, eN, hok⟩ := wK_ok hW hbk (by omega) (k := k_) (by omega)
                  rw [← hi2] at hW2 hSE eN
                  refine lv_aload_n hx hb dX8_adopt_90 rfl (lv_at hl 0 rfl) ?_
                  refine va_get (D := dg) (ci := 8) (v := .ref pt) (C := RX8) (T := TX8) (N := 10) hx hb hts in8 hown hK hP 0 rfl rfl 7 (by decide) f23 (fun _ h9 => h9) rfl dX8_adopt_91 ?_
                  refine lv_iload hx hb dX8_adopt_94 (lv_at hl 3 rfl) ?_
                  refine r_iald_n hx hb hK hP 4 rfl (k := k_) (by omega) (by omega) dX8_adopt_96 ?_
                  refine r_top (show (p232 k_) = (nI (okE s (bal s (hE s)) (brE s bk_) (mn s bk_) k_)) from hw32.2 k_ (show k_ < adN s bk_ by omega)) ?_
                  refine lv_istore (lv' := [(5, .int (nI (okE s (bal s (hE s)) (brE s bk_) (mn s bk_) k_))), (0, .ref m0), (1, .int (nI bk_)), (3, .int (nI (adN s bk_))), (4, .int (nI k_))]) hx hb dX8_adopt_97 hl (by decide) rfl (fun ls hl => ?_)
                  refine lv_aload_n hx hb dX8_adopt_99 rfl (lv_at hl 1 rfl) ?_
                  refine lv_aload_n hx hb dX8_adopt_100 rfl (lv_at hl 1 rfl) ?_
                  refine lv_iload hx hb dX8_adopt_101 (lv_at hl 0 rfl) ?_
                  refine lv_iconst (v := (nI 1)) hx hb dX8_adopt_103 (by decide) ?_
                  refine call_x (va_runV (As := [.int (nI (okE s (bal s (hE s)) (brE s bk_) (mn s bk_) k_)), .int (nI 1)]) (rest := [.ref m0]) ⟨hx, hb, hml, hown, hts⟩ (kX8_en ln dg tq (m0 := m0) (ms := ms) (mw := mw) (mt := mt) (su := su) (pt := pt) (td := td) (wy := wy) (xs := (nI (recN st))) (xt := xt) (xa := xa) (s := x_) (e := okE s (bal s (hE s)) (brE s bk_) (mn s bk_) k_) (f := 1) (he := (by omega)) (hf := (by omega)) H.size) (cwV 2 hts gX8_adopt_X8_en rfl rfl rfl hdX8_en ⟨Nat.le_of_ble_eq_true rfl, Nat.le_of_ble_eq_true rfl⟩) (preVR hK hN hP [0, 1] rfl 0 rfl rfl [.int (nI (okE s (bal s (hE s)) (brE s bk_) (mn s bk_) k_)), .int (nI 1)]) rfl rfl hl.1 rfl (lv_room (Nat.le_of_ble_eq_true rfl)) dX8_adopt_104 ⟨Nat.le_refl _, Nat.le_refl _⟩) hP hS hA (fun H locs hP hS => ?_)
                  refine r_top (show (x_ (5 + 7 * (okE s (bal s (hE s)) (brE s bk_) (mn s bk_) k_) + 1)) = (me s (okE s (bal s (hE s)) (brE s bk_) (mn s bk_) k_) 1) from hSE _ hok 1 (by omega)) ?_
                  refine lv_aload_n hx hb dX8_adopt_107 rfl (lv_at hl 1 rfl) ?_
                  refine lv_iload hx hb dX8_adopt_108 (lv_at hl 0 rfl) ?_
                  refine lv_iconst (v := (nI 2)) hx hb dX8_adopt_110 (by decide) ?_
                  refine call_x (va_runV (As := [.int (nI (okE s (bal s (hE s)) (brE s bk_) (mn s bk_) k_)), .int (nI 2)]) (rest := [.int (me s (okE s (bal s (hE s)) (brE s bk_) (mn s bk_) k_) 1), .ref m0]) ⟨hx, hb, hml, hown, hts⟩ (kX8_en ln dg tq (m0 := m0) (ms := ms) (mw := mw) (mt := mt) (su := su) (pt := pt) (td := td) (wy := wy) (xs := (nI (recN st))) (xt := xt) (xa := xa) (s := x_) (e := okE s (bal s (hE s)) (brE s bk_) (mn s bk_) k_) (f := 2) (he := (by omega)) (hf := (by omega)) H.size) (cwV 2 hts gX8_adopt_X8_en rfl rfl rfl hdX8_en ⟨Nat.le_of_ble_eq_true rfl, Nat.le_of_ble_eq_true rfl⟩) (preVR hK hN hP [0, 1] rfl 0 rfl rfl [.int (nI (okE s (bal s (hE s)) (brE s bk_) (mn s bk_) k_)), .int (nI 2)]) rfl rfl hl.1 rfl (lv_room (Nat.le_of_ble_eq_true rfl)) dX8_adopt_111 ⟨Nat.le_refl _, Nat.le_refl _⟩) hP hS hA (fun H locs hP hS => ?_)
                  refine r_top (show (x_ (5 + 7 * (okE s (bal s (hE s)) (brE s bk_) (mn s bk_) k_) + 2)) = (me s (okE s (bal s (hE s)) (brE s bk_) (mn s bk_) k_) 2) from hSE _ hok 2 (by omega)) ?_
                  refine lv_aload_n hx hb dX8_adopt_114 rfl (lv_at hl 1 rfl) ?_
                  refine lv_iload hx hb dX8_adopt_115 (lv_at hl 0 rfl) ?_
                  refine lv_iconst (v := (nI 3)) hx hb dX8_adopt_117 (by decide) ?_
                  refine call_x (va_runV (As := [.int (nI (okE s (bal s (hE s)) (brE s bk_) (mn s bk_) k_)), .int (nI 3)]) (rest := [.int (me s (okE s (bal s (hE s)) (brE s bk_) (mn s bk_) k_) 2), .int (me s (okE s (bal s (hE s)) (brE s bk_) (mn s bk_) k_) 1), .ref m0]) ⟨hx, hb, hml, hown, hts⟩ (kX8_en ln dg tq (m0 := m0) (ms := ms) (mw := mw) (mt := mt) (su := su) (pt := pt) (td := td) (wy := wy) (xs := (nI (recN st))) (xt := xt) (xa := xa) (s := x_) (e := okE s (bal s (hE s)) (brE s bk_) (mn s bk_) k_) (f := 3) (he := (by omega)) (hf := (by omega)) H.size) (cwV 2 hts gX8_adopt_X8_en rfl rfl rfl hdX8_en ⟨Nat.le_of_ble_eq_true rfl, Nat.le_of_ble_eq_true rfl⟩) (preVR hK hN hP [0, 1] rfl 0 rfl rfl [.int (nI (okE s (bal s (hE s)) (brE s bk_) (mn s bk_) k_)), .int (nI 3)]) rfl rfl hl.1 rfl (lv_room (Nat.le_of_ble_eq_true rfl)) dX8_adopt_118 ⟨Nat.le_refl _, Nat.le_refl _⟩) hP hS hA (fun H locs hP hS => ?_)
                  refine r_top (show (x_ (5 + 7 * (okE s (bal s (hE s)) (brE s bk_) (mn s bk_) k_) + 3)) = (me s (okE s (bal s (hE s)) (brE s bk_) (mn s bk_) k_) 3) from hSE _ hok 3 (by omega)) ?_
                  refine lv_aload_n hx hb dX8_adopt_121 rfl (lv_at hl 1 rfl) ?_
                  refine lv_iload hx hb dX8_adopt_122 (lv_at hl 0 rfl) ?_
                  refine lv_iconst (v := (nI 4)) hx hb dX8_adopt_124 (by decide) ?_
                  refine call_x (va_runV (As := [.int (nI (okE s (bal s (hE s)) (brE s bk_) (mn s bk_) k_)), .int (nI 4)]) (rest := [.int (me s (okE s (bal s (hE s)) (brE s bk_) (mn s bk_) k_) 3), .int (me s (okE s (bal s (hE s)) (brE s bk_) (mn s bk_) k_) 2), .int (me s (okE s (bal s (hE s)) (brE s bk_) (mn s bk_) k_) 1), .ref m0]) ⟨hx, hb, hml, hown, hts⟩ (kX8_en ln dg tq (m0 := m0) (ms := ms) (mw := mw) (mt := mt) (su := su) (pt := pt) (td := td) (wy := wy) (xs := (nI (recN st))) (xt := xt) (xa := xa) (s := x_) (e := okE s (bal s (hE s)) (brE s bk_) (mn s bk_) k_) (f := 4) (he := (by omega)) (hf := (by omega)) H.size) (cwV 2 hts gX8_adopt_X8_en rfl rfl rfl hdX8_en ⟨Nat.le_of_ble_eq_true rfl, Nat.le_of_ble_eq_true rfl⟩) (preVR hK hN hP [0, 1] rfl 0 rfl rfl [.int (nI (okE s (bal s (hE s)) (brE s bk_) (mn s bk_) k_)), .int (nI 4)]) rfl rfl hl.1 rfl (lv_room (Nat.le_of_ble_eq_true rfl)) dX8_adopt_125 ⟨Nat.le_refl _, Nat.le_refl _⟩) hP hS hA (fun H locs hP hS => ?_)
                  refine r_top (show (x_ (5 + 7 * (okE s (bal s (hE s)) (brE s bk_) (mn s bk_) k_) + 4)) = (me s (okE s (bal s (hE s)) (brE s bk_) (mn s bk_) k_) 4) from hSE _ hok 4 (by omega)) ?_
                  refine lv_iload hx hb dX8_adopt_128 (lv_at hl 0 rfl) ?_
                  refine call_w (wr := [(mw, .inl (tq.1, 7225, .inl (recW was s st))), (su, .inl (tq.1, 6, .inl g32)), (pt, .inl (tq.1, 60, .inl p232))]) (va_runV (As := [.int (me s (okE s (bal s (hE s)) (brE s bk_) (mn s bk_) k_) 1), .int (me s (okE s (bal s (hE s)) (brE s bk_) (mn s bk_) k_) 2), .int (me s (okE s (bal s (hE s)) (brE s bk_) (mn s bk_) k_) 3), .int (me s (okE s (bal s (hE s)) (brE s bk_) (mn s bk_) k_) 4), .int (nI (okE s (bal s (hE s)) (brE s bk_) (mn s bk_) k_))]) (rest := []) ⟨hx, hb, hml, hown, hts⟩ (kX8_puts ln dg tq (m0 := m0) (ms := ms) (mw := mw) (mt := mt) (su := su) (pt := pt) (td := td) (wy := wy) (xs := (nI (recN st))) (xt := xt) (xa := xa) (s := x_) (hW := hW2) (k := (me s (okE s (bal s (hE s)) (brE s bk_) (mn s bk_) k_) 1)) (f := (me s (okE s (bal s (hE s)) (brE s bk_) (mn s bk_) k_) 2)) (t := (me s (okE s (bal s (hE s)) (brE s bk_) (mn s bk_) k_) 3)) (a := (me s (okE s (bal s (hE s)) (brE s bk_) (mn s bk_) k_) 4)) (o := (nI (okE s (bal s (hE s)) (brE s bk_) (mn s bk_) k_))) (hn := (by omega)) H.size) (cwV 5 hts gX8_adopt_X8_puts rfl rfl rfl hdX8_puts ⟨Nat.le_of_ble_eq_true rfl, Nat.le_of_ble_eq_true rfl⟩) (preVB hK hN hP hD [0, 1] rfl rfl rfl 0 rfl rfl [.int (me s (okE s (bal s (hE s)) (brE s bk_) (mn s bk_) k_) 1), .int (me s (okE s (bal s (hE s)) (brE s bk_) (mn s bk_) k_) 2), .int (me s (okE s (bal s (hE s)) (brE s bk_) (mn s bk_) k_) 3), .int (me s (okE s (bal s (hE s)) (brE s bk_) (mn s bk_) k_) 4), .int (nI (okE s (bal s (hE s)) (brE s bk_) (mn s bk_) k_))]) rfl rfl hl.1 rfl (lv_room (Nat.le_of_ble_eq_true rfl)) dX8_adopt_130 ⟨Nat.le_refl _, Nat.le_refl _⟩) hP hD hS hA [0, 1] [2, 3, 4] rfl rfl (by decide) (by decide) (fun r130 u130 H locs hw130 hP hD hS => ?_)
                  have hP : va_P dg vwCl [(mw, .inl (tq.1, 7225, .inl (recW was s st))), (su, .inl (tq.1, 6, .inl g32)), (pt, .inl (tq.1, 60, .inl p232)), (m0, .inr (8, [.ref ms, .ref mw, .int (nI (recN st)), .ref mt, .int xt, .int xa, .ref su, .ref pt, .ref td, .ref wy])), (ms, .inl (tq.1, 1445, .inl (putE x_ (me s (okE s (bal s (hE s)) (brE s bk_) (mn s bk_) k_) 1) (me s (okE s (bal s (hE s)) (brE s bk_) (mn s bk_) k_) 2) (me s (okE s (bal s (hE s)) (brE s bk_) (mn s bk_) k_) 3) (me s (okE s (bal s (hE s)) (brE s bk_) (mn s bk_) k_) 4) (nI (okE s (bal s (hE s)) (brE s bk_) (mn s bk_) k_)))))] H := hP
                  have hD : va_D AA [(mw, .inl (tq.1, 7225, .inl (recW was s st))), (su, .inl (tq.1, 6, .inl g32)), (pt, .inl (tq.1, 60, .inl p232)), (m0, .inr (8, [.ref ms, .ref mw, .int (nI (recN st)), .ref mt, .int xt, .int xa, .ref su, .ref pt, .ref td, .ref wy])), (ms, .inl (tq.1, 1445, .inl (putE x_ (me s (okE s (bal s (hE s)) (brE s bk_) (mn s bk_) k_) 1) (me s (okE s (bal s (hE s)) (brE s bk_) (mn s bk_) k_) 2) (me s (okE s (bal s (hE s)) (brE s bk_) (mn s bk_) k_) 3) (me s (okE s (bal s (hE s)) (brE s bk_) (mn s bk_) k_) 4) (nI (okE s (bal s (hE s)) (brE s bk_) (mn s bk_) k_)))))] := hD
                  subst hw130
                  refine lv_pop hx hb dX8_adopt_133 rfl ?_
                  refine lv_iinc (v := (nI (k_ + 1))) (lv' := [(4, .int (nI (k_ + 1))), (5, .int (nI (okE s (bal s (hE s)) (brE s bk_) (mn s bk_) k_))), (0, .ref m0), (1, .int (nI bk_)), (3, .int (nI (adN s bk_)))]) hx hb dX8_adopt_134 hl (k := 4) rfl (nI_add _ _) (by decide) rfl (fun ls hl => ?_)
                  refine lv_goto (tgt := 84) hx hb dX8_adopt_137 (by decide) ?_
                  exact ih84 (k_ + 1) (putE x_ (me s (okE s (bal s (hE s)) (brE s bk_) (mn s bk_) k_) 1) (me s (okE s (bal s (hE s)) (brE s bk_) (mn s bk_) k_) 2) (me s (okE s (bal s (hE s)) (brE s bk_) (mn s bk_) k_) 3) (me s (okE s (bal s (hE s)) (brE s bk_) (mn s bk_) k_) 4) (nI (okE s (bal s (hE s)) (brE s bk_) (mn s bk_) k_))) H locs ls (⟨by omega, by rw [wK, ← hi2]⟩) (by omega) (hP.sub [3, 4, 0, 1, 2] rfl) (hD.sub [3, 4, 0, 1, 2] (by decide) rfl) hS (lv_sub hl [2, 3, 4, 0] rfl)
            exact loop84 _ 0 s H locs ls (⟨by omega, rfl⟩) (Nat.lt_succ_self _) (hP.sub [2, 3, 4, 0, 1] rfl) (hD.sub [2, 3, 4, 0, 1] (by decide) rfl) hS (lv_sub hl [2, 3, 1, 0] rfl)
          · skip
            refine lv_ldc hx hb hown k72 dX8_adopt_74 ?_
            exact hret (-100003) (s, was, st, g32, p232) H locs _ ls (show (-100003) = (adR s (nI bk_) how) ∧ (MACT s was st (adO s (nI bk_) how) (adS s (nI bk_)) s was st) from (have e0 : adP s (nI bk_) how = true := (by unfold adP; rw [c5, c14]; rfl); have e1 : adX s bk_ how = true := (by unfold adX; rw [c41, decide_eq_false (show ¬ how = nI 0 from fun z => c45 (by rw [z]; rfl))]; rfl); ⟨by unfold adR; rw [e0, if_pos rfl, cl_n (show bk_ < 2147483648 by omega), e1, if_pos rfl, if_pos (by omega)], MACT.no (by unfold adO; rw [e0, cl_n (show bk_ < 2147483648 by omega), e1, decide_eq_true (show 60 < nE s + adN s bk_ by omega)]; rfl)⟩)) rfl (hP.sub [1, 2, 0, 3, 4] rfl) (hD.sub [1, 2, 0, 3, 4] (by decide) rfl) hS dX8_adopt_76
        · skip
          refine lv_iload_n hx hb dX8_adopt_48 rfl (lv_at hl 0 rfl) ?_
          refine lv_aload_n hx hb dX8_adopt_49 rfl (lv_at hl 1 rfl) ?_
          refine lv_iload_n hx hb dX8_adopt_50 rfl (lv_at hl 2 rfl) ?_
          refine lv_iconst (v := (nI 1)) hx hb dX8_adopt_51 (by decide) ?_
          refine call_x (va_runV (As := [.int (nI bk_), .int (nI 1)]) (rest := [.int (nI (adN s bk_))]) ⟨hx, hb, hml, hown, hts⟩ (kX8_br ln dg tq (m0 := m0) (ms := ms) (mw := mw) (mt := mt) (su := su) (pt := pt) (td := td) (wy := wy) (xs := (nI st)) (xt := xt) (xa := xa) (s := s) (b := bk_) (f := 1) (hb0 := (by omega)) (hf := (by omega)) H.size) (cwV 2 hts gX8_adopt_X8_br rfl rfl rfl hdX8_br ⟨Nat.le_of_ble_eq_true rfl, Nat.le_of_ble_eq_true rfl⟩) (preVR hK hN hP [1, 2] rfl 1 rfl rfl [.int (nI bk_), .int (nI 1)]) rfl rfl hl.1 rfl (lv_room (Nat.le_of_ble_eq_true rfl)) dX8_adopt_52 ⟨Nat.le_refl _, Nat.le_refl _⟩) hP hS hA (fun H locs hP hS => ?_)
          refine r_top (show (s (425 + 4 * bk_ + 1)) = (nI (mn s bk_)) from (hW.br (b := bk_) (by omega)).2.2.1) ?_
          refine r_icmp_ge (tgt := 61) hx hb (nI_tI (by omega)) (nI_tI (by omega)) dX8_adopt_55 (by decide) (fun c55 => ?_) (fun c55 => ?_)
          · skip
            refine lv_aload_n hx hb dX8_adopt_61 rfl (lv_at hl 1 rfl) ?_
            refine va_get (D := dg) (ci := 8) (v := .ref ms) (C := RX8) (T := TX8) (N := 10) hx hb hts in8 hown hK hP 1 rfl rfl 0 (by decide) f7 (fun _ h9 => h9) rfl dX8_adopt_62 ?_
            refine lv_iconst (v := (nI 0)) hx hb dX8_adopt_65 (by decide) ?_
            refine r_iald_n hx hb hK hP 2 rfl (k := 0) (by omega) (by omega) dX8_adopt_66 ?_
            refine r_top (show (s 0) = (nI (nE s)) from (hW.n)) ?_
            refine lv_iload_n hx hb dX8_adopt_67 rfl (lv_at hl 0 rfl) ?_
            refine r_iadd_n hx hb dX8_adopt_68 ?_
            refine lv_bipush (v := (nI 60)) hx hb dX8_adopt_69 (by decide) ?_
            refine r_icmp_le (tgt := 77) hx hb (nI_tI (by omega)) (nI_tI (by omega)) dX8_adopt_71 (by decide) (fun c71 => ?_) (fun c71 => ?_)
            · skip
              refine lv_aload_n hx hb dX8_adopt_77 rfl (lv_at hl 1 rfl) ?_
              refine call_v (wr := [(su, .inl (tq.1, 6, .inl g32)), (pt, .inl (tq.1, 60, .inl p232))]) (va_runV (As := []) (rest := []) ⟨hx, hb, hml, hown, hts⟩ (kX8_records ln dg tq (m0 := m0) (ms := ms) (mw := mw) (mt := mt) (su := su) (pt := pt) (td := td) (wy := wy) (xt := xt) (xa := xa) (st := st) (hst := (by omega)) (s := s) (was := was) H.size) (cwV 0 hts gX8_adopt_X8_records rfl rfl rfl hdX8_records ⟨Nat.le_of_ble_eq_true rfl, Nat.le_of_ble_eq_true rfl⟩) (preVB hK hN hP hD [1, 2, 0] rfl rfl rfl 1 rfl rfl []) rfl rfl hl.1 rfl (lv_room (Nat.le_of_ble_eq_true rfl)) dX8_adopt_78 ⟨Nat.le_refl _, Nat.le_refl _⟩) hP hD hS hA [1, 2, 0] [3, 4] rfl rfl (by decide) (by decide) (fun u78 H locs hw78 hP hD hS => ?_)
              have hP : va_P dg vwCl [(su, .inl (tq.1, 6, .inl g32)), (pt, .inl (tq.1, 60, .inl p232)), (m0, .inr (8, [.ref ms, .ref mw, .int (nI (recN st)), .ref mt, .int xt, .int xa, .ref su, .ref pt, .ref td, .ref wy])), (ms, .inl (tq.1, 1445, .inl s)), (mw, .inl (tq.1, 7225, .inl (recW was s st)))] H := hP
              have hD : va_D AA [(su, .inl (tq.1, 6, .inl g32)), (pt, .inl (tq.1, 60, .inl p232)), (m0, .inr (8, [.ref ms, .ref mw, .int (nI (recN st)), .ref mt, .int xt, .int xa, .ref su, .ref pt, .ref td, .ref wy])), (ms, .inl (tq.1, 1445, .inl s)), (mw, .inl (tq.1, 7225, .inl (recW was s st)))] := hD
              refine lv_iconst (v := (nI 0)) hx hb dX8_adopt_81 (by decide) ?_
              refine lv_istore (lv' := [(4, .int (nI 0)), (3, .int (nI (adN s bk_))), (0, .ref m0), (1, .int (nI bk_)), (2, .int how)]) hx hb dX8_adopt_82 hl (by decide) rfl (fun ls hl => ?_)
              have loop84 : ∀ (fu : Nat) (k_ : Nat) (x_ : Row) (H : Heap) (locs : List Loc) (ls : Array Slot), (k_ ≤ adN s bk_ ∧ x_ = wK s bk_ k_) → adN s bk_ - k_ < fu → va_P dg vwCl [(m0, .inr (8, [.ref ms, .ref mw, .int (nI (recN st)), .ref mt, .int xt, .int xa, .ref su, .ref pt, .ref td, .ref wy])), (ms, .inl (tq.1, 1445, .inl x_)), (mw, .inl (tq.1, 7225, .inl (recW was s st))), (su, .inl (tq.1, 6, .inl g32)), (pt, .inl (tq.1, 60, .inl p232))] H → va_D AA [(m0, .inr (8, [.ref ms, .ref mw, .int (nI (recN st)), .ref mt, .int xt, .int xa, .ref su, .ref pt, .ref td, .ref wy])), (ms, .inl (tq.1, 1445, .inl x_)), (mw, .inl (tq.1, 7225, .inl (recW was s st))), (su, .inl (tq.1, 6, .inl g32)), (pt, .inl (tq.1, 60, .inl p232))] → va_S AA sS.heap H locs → lv_has ls 6 [(0, .ref m0), (1, .int (nI bk_)), (3, .int (nI (adN s bk_))), (4, .int (nI k_))] → W pP ln eE (rmm 4 92) sS mM aA bB mT cC H locs 0 0 QQ (F0 mM 84 ls []) := by
                intro fu
                induction fu with
                | zero => intro k_ x_ H locs ls _ hm; exact absurd hm (Nat.not_lt_zero _)
                | succ fu ih84 =>
                  intro k_ x_ H locs ls hinv hm hP hD hS hl
                  obtain ⟨hi1, hi2⟩ := hinv
                  refine lv_iload hx hb dX8_adopt_84 (lv_at hl 3 rfl) ?_
                  refine lv_iload_n hx hb dX8_adopt_86 rfl (lv_at hl 2 rfl) ?_
                  refine r_icmp_ge (tgt := 140) hx hb (nI_tI (by omega)) (nI_tI (by omega)) dX8_adopt_87 (by decide) (fun c87 => ?_) (fun c87 => ?_)
                  · skip
                    have ew : x_ = (wF s bk_ (mn s bk_)) := by rw [hi2, wF_K s bk_ _ (Nat.le_refl _), show k_ = adN s bk_ by omega]; rfl
                    have hP : va_P dg vwCl [(m0, .inr (8, [.ref ms, .ref mw, .int (nI (recN st)), .ref mt, .int xt, .int xa, .ref su, .ref pt, .ref td, .ref wy])), (ms, .inl (tq.1, 1445, .inl (wF s bk_ (mn s bk_)))), (mw, .inl (tq.1, 7225, .inl (recW was s st))), (su, .inl (tq.1, 6, .inl g32)), (pt, .inl (tq.1, 60, .inl p232))] H := by rw [← ew]; exact hP
                    have hD : va_D AA [(m0, .inr (8, [.ref ms, .ref mw, .int (nI (recN st)), .ref mt, .int xt, .int xa, .ref su, .ref pt, .ref td, .ref wy])), (ms, .inl (tq.1, 1445, .inl (wF s bk_ (mn s bk_)))), (mw, .inl (tq.1, 7225, .inl (recW was s st))), (su, .inl (tq.1, 6, .inl g32)), (pt, .inl (tq.1, 60, .inl p232))] := by rw [← ew]; exact hD
                    refine lv_aload_n hx hb dX8_adopt_140 rfl (lv_at hl 0 rfl) ?_
                    refine va_get (D := dg) (ci := 8) (v := .ref ms) (C := RX8) (T := TX8) (N := 10) hx hb hts in8 hown hK hP 0 rfl rfl 0 (by decide) f7 (fun _ h9 => h9) rfl dX8_adopt_141 ?_
                    refine lv_sipush (v := (nI 425)) hx hb dX8_adopt_144 (by decide) ?_
                    refine lv_iconst (v := (nI 4)) hx hb dX8_adopt_147 (by decide) ?_
                    refine lv_iload_n hx hb dX8_adopt_148 rfl (lv_at hl 1 rfl) ?_
                    refine r_imul_n hx hb dX8_adopt_149 ?_
                    refine r_iadd_n hx hb dX8_adopt_150 ?_
                    refine lv_iconst (v := (nI 3)) hx hb dX8_adopt_151 (by decide) ?_
                    refine r_iadd_n hx hb dX8_adopt_152 ?_
                    refine lv_iconst (v := (nI 2)) hx hb dX8_adopt_153 (by decide) ?_
                    refine r_iast_n hx hb hK hP hD hS 1 rfl (k := ((425 + (4 * bk_)) + 3)) (by omega) (by omega) dX8_adopt_154 (fun H locs hP hD hS => ?_)
                    have hP : va_P dg vwCl [(m0, .inr (8, [.ref ms, .ref mw, .int (nI (recN st)), .ref mt, .int xt, .int xa, .ref su, .ref pt, .ref td, .ref wy])), (ms, .inl (tq.1, 1445, .inl (upd (wF s bk_ (mn s bk_)) ((425 + (4 * bk_)) + 3) (nI 2)))), (mw, .inl (tq.1, 7225, .inl (recW was s st))), (su, .inl (tq.1, 6, .inl g32)), (pt, .inl (tq.1, 60, .inl p232))] H := hP
                    have hD : va_D AA [(m0, .inr (8, [.ref ms, .ref mw, .int (nI (recN st)), .ref mt, .int xt, .int xa, .ref su, .ref pt, .ref td, .ref wy])), (ms, .inl (tq.1, 1445, .inl (upd (wF s bk_ (mn s bk_)) ((425 + (4 * bk_)) + 3) (nI 2)))), (mw, .inl (tq.1, 7225, .inl (recW was s st))), (su, .inl (tq.1, 6, .inl g32)), (pt, .inl (tq.1, 60, .inl p232))] := hD
                    refine lv_iload_n hx hb dX8_adopt_155 rfl (lv_at hl 2 rfl) ?_
                    exact hret (nI (adN s bk_)) ((upd (wF s bk_ (mn s bk_)) ((425 + (4 * bk_)) + 3) (nI 2)), (recW was s st), (recN st), g32, p232) H locs _ ls (show (nI (adN s bk_)) = (adR s (nI bk_) how) ∧ (MACT s was st (adO s (nI bk_) how) (adS s (nI bk_)) (upd (wF s bk_ (mn s bk_)) ((425 + (4 * bk_)) + 3) (nI 2)) (recW was s st) (recN st)) from (have e0 : adP s (nI bk_) how = true := (by unfold adP; rw [c5, c14]; rfl); have e1 : adX s bk_ how = true := (by unfold adX; rw [c41, decide_eq_false (show ¬ adN s bk_ < mn s bk_ by omega)]; simp); ⟨by unfold adR; rw [e0, if_pos rfl, cl_n (show bk_ < 2147483648 by omega), e1, if_pos rfl, if_neg (by omega)], MACT.yes (by unfold adO; rw [e0, cl_n (show bk_ < 2147483648 by omega), e1, decide_eq_false (show ¬ 60 < nE s + adN s bk_ by omega)]; rfl) (by unfold adS; rw [cl_n (show bk_ < 2147483648 by omega)])⟩)) rfl (hP.sub [0, 1, 2, 3, 4] rfl) (hD.sub [0, 1, 2, 3, 4] (by decide) rfl) hS dX8_adopt_156
                  · skip
                    obtain ⟨hW2, hSE, eN, hok⟩ := wK_ok hW hbk (by omega) (k := k_) (by omega)
                    rw [← hi2] at hW2 hSE eN
                    refine lv_aload_n hx hb dX8_adopt_90 rfl (lv_at hl 0 rfl) ?_
                    refine va_get (D := dg) (ci := 8) (v := .ref pt) (C := RX8) (T := TX8) (N := 10) hx hb hts in8 hown hK hP 0 rfl rfl 7 (by decide) f23 (fun _ h9 => h9) rfl dX8_adopt_91 ?_
                    refine lv_iload hx hb dX8_adopt_94 (lv_at hl 3 rfl) ?_
                    refine r_iald_n hx hb hK hP 4 rfl (k := k_) (by omega) (by omega) dX8_adopt_96 ?_
                    refine r_top (show (p232 k_) = (nI (okE s (bal s (hE s)) (brE s bk_) (mn s bk_) k_)) from hw32.2 k_ (show k_ < adN s bk_ by omega)) ?_
                    refine lv_istore (lv' := [(5, .int (nI (okE s (bal s (hE s)) (brE s bk_) (mn s bk_) k_))), (0, .ref m0), (1, .int (nI bk_)), (3, .int (nI (adN s bk_))), (4, .int (nI k_))]) hx hb dX8_adopt_97 hl (by decide) rfl (fun ls hl => ?_)
                    refine lv_aload_n hx hb dX8_adopt_99 rfl (lv_at hl 1 rfl) ?_
                    refine lv_aload_n hx hb dX8_adopt_100 rfl (lv_at hl 1 rfl) ?_
                    refine lv_iload hx hb dX8_adopt_101 (lv_at hl 0 rfl) ?_
                    refine lv_iconst (v := (nI 1)) hx hb dX8_adopt_103 (by decide) ?_
                    refine call_x (va_runV (As := [.int (nI (okE s (bal s (hE s)) (brE s bk_) (mn s bk_) k_)), .int (nI 1)]) (rest := [.ref m0]) ⟨hx, hb, hml, hown, hts⟩ (kX8_en ln dg tq (m0 := m0) (ms := ms) (mw := mw) (mt := mt) (su := su) (pt := pt) (td := td) (wy := wy) (xs := (nI (recN st))) (xt := xt) (xa := xa) (s := x_) (e := okE s (bal s (hE s)) (brE s bk_) (mn s bk_) k_) (f := 1) (he := (by omega)) (hf := (by omega)) H.size) (cwV 2 hts gX8_adopt_X8_en rfl rfl rfl hdX8_en ⟨Nat.le_of_ble_eq_true rfl, Nat.le_of_ble_eq_true rfl⟩) (preVR hK hN hP [0, 1] rfl 0 rfl rfl [.int (nI (okE s (bal s (hE s)) (brE s bk_) (mn s bk_) k_)), .int (nI 1)]) rfl rfl hl.1 rfl (lv_room (Nat.le_of_ble_eq_true rfl)) dX8_adopt_104 ⟨Nat.le_refl _, Nat.le_refl _⟩) hP hS hA (fun H locs hP hS => ?_)
                    refine r_top (show (x_ (5 + 7 * (okE s (bal s (hE s)) (brE s bk_) (mn s bk_) k_) + 1)) = (me s (okE s (bal s (hE s)) (brE s bk_) (mn s bk_) k_) 1) from hSE _ hok 1 (by omega)) ?_
                    refine lv_aload_n hx hb dX8_adopt_107 rfl (lv_at hl 1 rfl) ?_
                    refine lv_iload hx hb dX8_adopt_108 (lv_at hl 0 rfl) ?_
                    refine lv_iconst (v := (nI 2)) hx hb dX8_adopt_110 (by decide) ?_
                    refine call_x (va_runV (As := [.int (nI (okE s (bal s (hE s)) (brE s bk_) (mn s bk_) k_)), .int (nI 2)]) (rest := [.int (me s (okE s (bal s (hE s)) (brE s bk_) (mn s bk_) k_) 1), .ref m0]) ⟨hx, hb, hml, hown, hts⟩ (kX8_en ln dg tq (m0 := m0) (ms := ms) (mw := mw) (mt := mt) (su := su) (pt := pt) (td := td) (wy := wy) (xs := (nI (recN st))) (xt := xt) (xa := xa) (s := x_) (e := okE s (bal s (hE s)) (brE s bk_) (mn s bk_) k_) (f := 2) (he := (by omega)) (hf := (by omega)) H.size) (cwV 2 hts gX8_adopt_X8_en rfl rfl rfl hdX8_en ⟨Nat.le_of_ble_eq_true rfl, Nat.le_of_ble_eq_true rfl⟩) (preVR hK hN hP [0, 1] rfl 0 rfl rfl [.int (nI (okE s (bal s (hE s)) (brE s bk_) (mn s bk_) k_)), .int (nI 2)]) rfl rfl hl.1 rfl (lv_room (Nat.le_of_ble_eq_true rfl)) dX8_adopt_111 ⟨Nat.le_refl _, Nat.le_refl _⟩) hP hS hA (fun H locs hP hS => ?_)
                    refine r_top (show (x_ (5 + 7 * (okE s (bal s (hE s)) (brE s bk_) (mn s bk_) k_) + 2)) = (me s (okE s (bal s (hE s)) (brE s bk_) (mn s bk_) k_) 2) from hSE _ hok 2 (by omega)) ?_
                    refine lv_aload_n hx hb dX8_adopt_114 rfl (lv_at hl 1 rfl) ?_
                    refine lv_iload hx hb dX8_adopt_115 (lv_at hl 0 rfl) ?_
                    refine lv_iconst (v := (nI 3)) hx hb dX8_adopt_117 (by decide) ?_
                    refine call_x (va_runV (As := [.int (nI (okE s (bal s (hE s)) (brE s bk_) (mn s bk_) k_)), .int (nI 3)]) (rest := [.int (me s (okE s (bal s (hE s)) (brE s bk_) (mn s bk_) k_) 2), .int (me s (okE s (bal s (hE s)) (brE s bk_) (mn s bk_) k_) 1), .ref m0]) ⟨hx, hb, hml, hown, hts⟩ (kX8_en ln dg tq (m0 := m0) (ms := ms) (mw := mw) (mt := mt) (su := su) (pt := pt) (td := td) (wy := wy) (xs := (nI (recN st))) (xt := xt) (xa := xa) (s := x_) (e := okE s (bal s (hE s)) (brE s bk_) (mn s bk_) k_) (f := 3) (he := (by omega)) (hf := (by omega)) H.size) (cwV 2 hts gX8_adopt_X8_en rfl rfl rfl hdX8_en ⟨Nat.le_of_ble_eq_true rfl, Nat.le_of_ble_eq_true rfl⟩) (preVR hK hN hP [0, 1] rfl 0 rfl rfl [.int (nI (okE s (bal s (hE s)) (brE s bk_) (mn s bk_) k_)), .int (nI 3)]) rfl rfl hl.1 rfl (lv_room (Nat.le_of_ble_eq_true rfl)) dX8_adopt_118 ⟨Nat.le_refl _, Nat.le_refl _⟩) hP hS hA (fun H locs hP hS => ?_)
                    refine r_top (show (x_ (5 + 7 * (okE s (bal s (hE s)) (brE s bk_) (mn s bk_) k_) + 3)) = (me s (okE s (bal s (hE s)) (brE s bk_) (mn s bk_) k_) 3) from hSE _ hok 3 (by omega)) ?_
                    refine lv_aload_n hx hb dX8_adopt_121 rfl (lv_at hl 1 rfl) ?_
                    refine lv_iload hx hb dX8_adopt_122 (lv_at hl 0 rfl) ?_
                    refine lv_iconst (v := (nI 4)) hx hb dX8_adopt_124 (by decide) ?_
                    refine call_x (va_runV (As := [.int (nI (okE s (bal s (hE s)) (brE s bk_) (mn s bk_) k_)), .int (nI 4)]) (rest := [.int (me s (okE s (bal s (hE s)) (brE s bk_) (mn s bk_) k_) 3), .int (me s (okE s (bal s (hE s)) (brE s bk_) (mn s bk_) k_) 2), .int (me s (okE s (bal s (hE s)) (brE s bk_) (mn s bk_) k_) 1), .ref m0]) ⟨hx, hb, hml, hown, hts⟩ (kX8_en ln dg tq (m0 := m0) (ms := ms) (mw := mw) (mt := mt) (su := su) (pt := pt) (td := td) (wy := wy) (xs := (nI (recN st))) (xt := xt) (xa := xa) (s := x_) (e := okE s (bal s (hE s)) (brE s bk_) (mn s bk_) k_) (f := 4) (he := (by omega)) (hf := (by omega)) H.size) (cwV 2 hts gX8_adopt_X8_en rfl rfl rfl hdX8_en ⟨Nat.le_of_ble_eq_true rfl, Nat.le_of_ble_eq_true rfl⟩) (preVR hK hN hP [0, 1] rfl 0 rfl rfl [.int (nI (okE s (bal s (hE s)) (brE s bk_) (mn s bk_) k_)), .int (nI 4)]) rfl rfl hl.1 rfl (lv_room (Nat.le_of_ble_eq_true rfl)) dX8_adopt_125 ⟨Nat.le_refl _, Nat.le_refl _⟩) hP hS hA (fun H locs hP hS => ?_)
                    refine r_top (show (x_ (5 + 7 * (okE s (bal s (hE s)) (brE s bk_) (mn s bk_) k_) + 4)) = (me s (okE s (bal s (hE s)) (brE s bk_) (mn s bk_) k_) 4) from hSE _ hok 4 (by omega)) ?_
                    refine lv_iload hx hb dX8_adopt_128 (lv_at hl 0 rfl) ?_
                    refine call_w (wr := [(mw, .inl (tq.1, 7225, .inl (recW was s st))), (su, .inl (tq.1, 6, .inl g32)), (pt, .inl (tq.1, 60, .inl p232))]) (va_runV (As := [.int (me s (okE s (bal s (hE s)) (brE s bk_) (mn s bk_) k_) 1), .int (me s (okE s (bal s (hE s)) (brE s bk_) (mn s bk_) k_) 2), .int (me s (okE s (bal s (hE s)) (brE s bk_) (mn s bk_) k_) 3), .int (me s (okE s (bal s (hE s)) (brE s bk_) (mn s bk_) k_) 4), .int (nI (okE s (bal s (hE s)) (brE s bk_) (mn s bk_) k_))]) (rest := []) ⟨hx, hb, hml, hown, hts⟩ (kX8_puts ln dg tq (m0 := m0) (ms := ms) (mw := mw) (mt := mt) (su := su) (pt := pt) (td := td) (wy := wy) (xs := (nI (recN st))) (xt := xt) (xa := xa) (s := x_) (hW := hW2) (k := (me s (okE s (bal s (hE s)) (brE s bk_) (mn s bk_) k_) 1)) (f := (me s (okE s (bal s (hE s)) (brE s bk_) (mn s bk_) k_) 2)) (t := (me s (okE s (bal s (hE s)) (brE s bk_) (mn s bk_) k_) 3)) (a := (me s (okE s (bal s (hE s)) (brE s bk_) (mn s bk_) k_) 4)) (o := (nI (okE s (bal s (hE s)) (brE s bk_) (mn s bk_) k_))) (hn := (by omega)) H.size) (cwV 5 hts gX8_adopt_X8_puts rfl rfl rfl hdX8_puts ⟨Nat.le_of_ble_eq_true rfl, Nat.le_of_ble_eq_true rfl⟩) (preVB hK hN hP hD [0, 1] rfl rfl rfl 0 rfl rfl [.int (me s (okE s (bal s (hE s)) (brE s bk_) (mn s bk_) k_) 1), .int (me s (okE s (bal s (hE s)) (brE s bk_) (mn s bk_) k_) 2), .int (me s (okE s (bal s (hE s)) (brE s bk_) (mn s bk_) k_) 3), .int (me s (okE s (bal s (hE s)) (brE s bk_) (mn s bk_) k_) 4), .int (nI (okE s (bal s (hE s)) (brE s bk_) (mn s bk_) k_))]) rfl rfl hl.1 rfl (lv_room (Nat.le_of_ble_eq_true rfl)) dX8_adopt_130 ⟨Nat.le_refl _, Nat.le_refl _⟩) hP hD hS hA [0, 1] [2, 3, 4] rfl rfl (by decide) (by decide) (fun r130 u130 H locs hw130 hP hD hS => ?_)
                    have hP : va_P dg vwCl [(mw, .inl (tq.1, 7225, .inl (recW was s st))), (su, .inl (tq.1, 6, .inl g32)), (pt, .inl (tq.1, 60, .inl p232)), (m0, .inr (8, [.ref ms, .ref mw, .int (nI (recN st)), .ref mt, .int xt, .int xa, .ref su, .ref pt, .ref td, .ref wy])), (ms, .inl (tq.1, 1445, .inl (putE x_ (me s (okE s (bal s (hE s)) (brE s bk_) (mn s bk_) k_) 1) (me s (okE s (bal s (hE s)) (brE s bk_) (mn s bk_) k_) 2) (me s (okE s (bal s (hE s)) (brE s bk_) (mn s bk_) k_) 3) (me s (okE s (bal s (hE s)) (brE s bk_) (mn s bk_) k_) 4) (nI (okE s (bal s (hE s)) (brE s bk_) (mn s bk_) k_)))))] H := hP
                    have hD : va_D AA [(mw, .inl (tq.1, 7225, .inl (recW was s st))), (su, .inl (tq.1, 6, .inl g32)), (pt, .inl (tq.1, 60, .inl p232)), (m0, .inr (8, [.ref ms, .ref mw, .int (nI (recN st)), .ref mt, .int xt, .int xa, .ref su, .ref pt, .ref td, .ref wy])), (ms, .inl (tq.1, 1445, .inl (putE x_ (me s (okE s (bal s (hE s)) (brE s bk_) (mn s bk_) k_) 1) (me s (okE s (bal s (hE s)) (brE s bk_) (mn s bk_) k_) 2) (me s (okE s (bal s (hE s)) (brE s bk_) (mn s bk_) k_) 3) (me s (okE s (bal s (hE s)) (brE s bk_) (mn s bk_) k_) 4) (nI (okE s (bal s (hE s)) (brE s bk_) (mn s bk_) k_)))))] := hD
                    subst hw130
                    refine lv_pop hx hb dX8_adopt_133 rfl ?_
                    refine lv_iinc (v := (nI (k_ + 1))) (lv' := [(4, .int (nI (k_ + 1))), (5, .int (nI (okE s (bal s (hE s)) (brE s bk_) (mn s bk_) k_))), (0, .ref m0), (1, .int (nI bk_)), (3, .int (nI (adN s bk_)))]) hx hb dX8_adopt_134 hl (k := 4) rfl (nI_add _ _) (by decide) rfl (fun ls hl => ?_)
                    refine lv_goto (tgt := 84) hx hb dX8_adopt_137 (by decide) ?_
                    exact ih84 (k_ + 1) (putE x_ (me s (okE s (bal s (hE s)) (brE s bk_) (mn s bk_) k_) 1) (me s (okE s (bal s (hE s)) (brE s bk_) (mn s bk_) k_) 2) (me s (okE s (bal s (hE s)) (brE s bk_) (mn s bk_) k_) 3) (me s (okE s (bal s (hE s)) (brE s bk_) (mn s bk_) k_) 4) (nI (okE s (bal s (hE s)) (brE s bk_) (mn s bk_) k_))) H locs ls (⟨by omega, by rw [wK, ← hi2]⟩) (by omega) (hP.sub [3, 4, 0, 1, 2] rfl) (hD.sub [3, 4, 0, 1, 2] (by decide) rfl) hS (lv_sub hl [2, 3, 4, 0] rfl)
              exact loop84 _ 0 s H locs ls (⟨by omega, rfl⟩) (Nat.lt_succ_self _) (hP.sub [2, 3, 4, 0, 1] rfl) (hD.sub [2, 3, 4, 0, 1] (by decide) rfl) hS (lv_sub hl [2, 3, 1, 0] rfl)
            · skip
              refine lv_ldc hx hb hown k72 dX8_adopt_74 ?_
              exact hret (-100003) (s, was, st, g32, p232) H locs _ ls (show (-100003) = (adR s (nI bk_) how) ∧ (MACT s was st (adO s (nI bk_) how) (adS s (nI bk_)) s was st) from (have e0 : adP s (nI bk_) how = true := (by unfold adP; rw [c5, c14]; rfl); have e1 : adX s bk_ how = true := (by unfold adX; rw [c41, decide_eq_false (show ¬ adN s bk_ < mn s bk_ by omega)]; simp); ⟨by unfold adR; rw [e0, if_pos rfl, cl_n (show bk_ < 2147483648 by omega), e1, if_pos rfl, if_pos (by omega)], MACT.no (by unfold adO; rw [e0, cl_n (show bk_ < 2147483648 by omega), e1, decide_eq_true (show 60 < nE s + adN s bk_ by omega)]; rfl)⟩)) rfl (hP.sub [1, 2, 0, 3, 4] rfl) (hD.sub [1, 2, 0, 3, 4] (by decide) rfl) hS dX8_adopt_76
          · skip
            refine lv_ldc hx hb hown k71 dX8_adopt_58 ?_
            exact hret (-100002) (s, was, st, g32, p232) H locs _ ls (show (-100002) = (adR s (nI bk_) how) ∧ (MACT s was st (adO s (nI bk_) how) (adS s (nI bk_)) s was st) from (have e0 : adP s (nI bk_) how = true := (by unfold adP; rw [c5, c14]; rfl); have e1 : adX s bk_ how = false := (by unfold adX; rw [c41, decide_eq_true (show how = nI 0 from i32_eq c45), decide_eq_true (show adN s bk_ < mn s bk_ by omega)]; rfl); ⟨by unfold adR; rw [e0, if_pos rfl, cl_n (show bk_ < 2147483648 by omega), e1]; rfl, MACT.no (by unfold adO; rw [e0, cl_n (show bk_ < 2147483648 by omega), e1]; rfl)⟩)) rfl (hP.sub [1, 2, 0, 3, 4] rfl) (hD.sub [1, 2, 0, 3, 4] (by decide) rfl) hS dX8_adopt_60
    · skip
      refine lv_ldc hx hb hown k84 dX8_adopt_17 ?_
      exact hret (-100001) (s, was, st, fu_, pp) H locs _ ls (show (-100001) = (adR s x how) ∧ (MACT s was st (adO s x how) (adS s x) s was st) from (have e0 : adP s x how = false := (by unfold adP; rw [c14, Bool.and_false]); ⟨by unfold adR; rw [e0]; rfl, MACT.no (by unfold adO; rw [e0]; rfl)⟩)) rfl (hP.sub [0, 1, 2, 3, 4] rfl) (hD.sub [0, 1, 2, 3, 4] (by decide) rfl) hS dX8_adopt_19
