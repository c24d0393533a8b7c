theorem hdX8_goBack : yX8_goBack.cls = RX8 ∧ yX8_goBack.cls ≠ "java/lang/invoke/MethodHandle" ∧ yX8_goBack.cls ≠ "java/lang/invoke/VarHandle" ∧ (parseMethodDescriptor yX8_goBack.desc).map (fun d => d.parameters.length) = some 1 := by decide +kernel
set_option maxHeartbeats 4000000 in
set_option maxRecDepth 100000 in
theorem kX8_goBack (ln : Launch) (dg : va_G) (tq : ClassId × ClassId) (m0 ms mw mt su pt td wy : Nat) (xt xa : Int32) (st : Nat) (hst : st ≤ 5) (s was : Row) (hW : WF s) (x : Int32) : MW ln yX8_goBack wsX8_goBack (rmm 2 45) dg tq [.ref m0, .int x] [(m0, .inr (8, [.ref ms, .ref mw, .int (nI st), .ref mt, .int xt, .int xa, .ref su, .ref pt, .ref td, .ref wy])), (ms, .inl (tq.1, 1445, .inl s)), (mw, .inl (tq.1, 7225, .inl was))] (fun (r : Int32) (u : Row × Row × Nat) => r = (gbR s x) ∧ (MACT s was st (gbO s x) (gbS s x) u.1 u.2.1 u.2.2)) (fun u => [(m0, .inr (8, [.ref ms, .ref mw, .int (nI u.2.2), .ref mt, .int xt, .int xa, .ref su, .ref pt, .ref td, .ref wy])), (ms, .inl (tq.1, 1445, .inl u.1)), (mw, .inl (tq.1, 7225, .inl u.2.1))]) := by
  refine MW.enter cX8_goBack 4 .int (by decide) rfl rfl (Nat.le_of_ble_eq_true rfl) ?_
  intro pP eE sS mM aA bB mT cC QQ AA hA hAT hret H locs hP hD hS ls hl
  obtain ⟨hx, hb, hml, hown, hts, hK, hN⟩ := hAT
  have hown : sS.vm.findClass RX8 = some mM.cls := hown
  have hl : lv_has ls 4 [(0, .ref m0), (1, .int x)] := hl
  have in8 : ∀ w ∈ u_ws RX8 TX8 10, w ∈ wsX8_goBack := (fun _ h9 => List.mem_cons_of_mem _ (List.mem_append_right _ h9))
  have f7 := hts (.fieldLink RX8 7 "OrphanChainModel" "s" "[I") (List.mem_of_getElem? (i := 2) rfl)
  have k72 := hts (.constant RX8 72 (-100003)) (List.mem_of_getElem? (i := 4) rfl)
  have k71 := hts (.constant RX8 71 (-100002)) (List.mem_of_getElem? (i := 3) rfl)
  have k84 := hts (.constant RX8 84 (-100001)) (List.mem_of_getElem? (i := 1) rfl)
  have hn60 := hW.n60
  have hb10 := hW.b10
  have hs8 := hW.s8
  have hhn := hW.hn
  refine lv_aload_n hx hb dX8_goBack_0 rfl (lv_at hl 0 rfl) ?_
  refine lv_iload_n hx hb dX8_goBack_1 rfl (lv_at hl 1 rfl) ?_
  refine call_x (va_runV (As := [.int x]) (rest := []) ⟨hx, hb, hml, hown, hts⟩ (kX8_isEntry ln dg tq (m0 := m0) (ms := ms) (mw := mw) (mt := mt) (su := su) (pt := pt) (td := td) (wy := wy) (xs := (nI st)) (xt := xt) (xa := xa) (s := s) (hW := hW) (x := x) H.size) (cwV 1 hts gX8_goBack_X8_isEntry rfl rfl rfl hdX8_isEntry ⟨Nat.le_of_ble_eq_true rfl, Nat.le_of_ble_eq_true rfl⟩) (preVR hK hN hP [0, 1] rfl 0 rfl rfl [.int x]) rfl rfl hl.1 rfl (lv_room (Nat.le_of_ble_eq_true rfl)) dX8_goBack_2 ⟨Nat.le_refl _, Nat.le_refl _⟩) hP hS hA (fun H locs hP hS => ?_)
  refine r_if_ne_b (tgt := 11) hx hb dX8_goBack_5 (by decide) (fun c5 => ?_) (fun c5 => ?_)
  · skip
    obtain ⟨ek_, hek, rfl⟩ := hasN_t c5
    refine lv_aload_n hx hb dX8_goBack_11 rfl (lv_at hl 0 rfl) ?_
    refine lv_iload_n hx hb dX8_goBack_12 rfl (lv_at hl 1 rfl) ?_
    refine lv_aload_n hx hb dX8_goBack_13 rfl (lv_at hl 0 rfl) ?_
    refine va_get (D := dg) (ci := 8) (v := .ref ms) (C := RX8) (T := TX8) (N := 10) hx hb hts in8 hown hK hP 0 rfl rfl 0 (by decide) f7 (fun _ h9 => h9) rfl dX8_goBack_14 ?_
    refine lv_iconst (v := (nI 1)) hx hb dX8_goBack_17 (by decide) ?_
    refine r_iald_n hx hb hK hP 1 rfl (k := 1) (by omega) (by omega) dX8_goBack_18 ?_
    refine r_top (show (s 1) = (nI (hE s)) from (hW.h)) ?_
    refine call_x (va_runV (As := [.int (nI ek_), .int (nI (hE s))]) (rest := []) ⟨hx, hb, hml, hown, hts⟩ (kX8_isOnPath ln dg tq (m0 := m0) (ms := ms) (mw := mw) (mt := mt) (su := su) (pt := pt) (td := td) (wy := wy) (xs := (nI st)) (xt := xt) (xa := xa) (s := s) (hW := hW) (x := ek_) (y := hE s) (hx := (by omega)) (hy := (by omega)) H.size) (cwV 2 hts gX8_goBack_X8_isOnPath rfl rfl rfl hdX8_isOnPath ⟨Nat.le_of_ble_eq_true rfl, Nat.le_of_ble_eq_true rfl⟩) (preVR hK hN hP [0, 1] rfl 0 rfl rfl [.int (nI ek_), .int (nI (hE s))]) rfl rfl hl.1 rfl (lv_room (Nat.le_of_ble_eq_true rfl)) dX8_goBack_19 ⟨Nat.le_refl _, Nat.le_refl _⟩) hP hS hA (fun H locs hP hS => ?_)
    refine r_if_ne_b (tgt := 28) hx hb dX8_goBack_22 (by decide) (fun c22 => ?_) (fun c22 => ?_)
    · skip
      refine lv_iload_n hx hb dX8_goBack_28 rfl (lv_at hl 1 rfl) ?_
      refine lv_aload_n hx hb dX8_goBack_29 rfl (lv_at hl 0 rfl) ?_
      refine va_get (D := dg) (ci := 8) (v := .ref ms) (C := RX8) (T := TX8) (N := 10) hx hb hts in8 hown hK hP 0 rfl rfl 0 (by decide) f7 (fun _ h9 => h9) rfl dX8_goBack_30 ?_
      refine lv_iconst (v := (nI 1)) hx hb dX8_goBack_33 (by decide) ?_
      refine r_iald_n hx hb hK hP 1 rfl (k := 1) (by omega) (by omega) dX8_goBack_34 ?_
      refine r_top (show (s 1) = (nI (hE s)) from (hW.h)) ?_
      refine r_icmp_eq (tgt := 52) hx hb (nI_tI (by omega)) (nI_tI (by omega)) dX8_goBack_35 (by decide) (fun c35 => ?_) (fun c35 => ?_)
      · skip
        refine lv_aload_n hx hb dX8_goBack_52 rfl (lv_at hl 0 rfl) ?_
        refine call_v (wr := []) (va_runV (As := []) (rest := []) ⟨hx, hb, hml, hown, hts⟩ (kX8_records ln dg tq (m0 := m0) (ms := ms) (mw := mw) (mt := mt) (su := su) (pt := pt) (td := td) (wy := wy) (xt := xt) (xa := xa) (st := st) (hst := (by omega)) (s := s) (was := was) H.size) (cwV 0 hts gX8_goBack_X8_records rfl rfl rfl hdX8_records ⟨Nat.le_of_ble_eq_true rfl, Nat.le_of_ble_eq_true rfl⟩) (preVB hK hN hP hD [0, 1, 2] rfl rfl rfl 0 rfl rfl []) rfl rfl hl.1 rfl (lv_room (Nat.le_of_ble_eq_true rfl)) dX8_goBack_53 ⟨Nat.le_refl _, Nat.le_refl _⟩) hP hD hS hA [0, 1, 2] [] rfl rfl (by decide) (by decide) (fun u53 H locs hw53 hP hD hS => ?_)
        have hP : va_P dg vwCl [(m0, .inr (8, [.ref ms, .ref mw, .int (nI (recN st)), .ref mt, .int xt, .int xa, .ref su, .ref pt, .ref td, .ref wy])), (ms, .inl (tq.1, 1445, .inl s)), (mw, .inl (tq.1, 7225, .inl (recW was s st)))] H := hP
        have hD : va_D AA [(m0, .inr (8, [.ref ms, .ref mw, .int (nI (recN st)), .ref mt, .int xt, .int xa, .ref su, .ref pt, .ref td, .ref wy])), (ms, .inl (tq.1, 1445, .inl s)), (mw, .inl (tq.1, 7225, .inl (recW was s st)))] := hD
        refine lv_aload_n hx hb dX8_goBack_56 rfl (lv_at hl 0 rfl) ?_
        refine va_get (D := dg) (ci := 8) (v := .ref ms) (C := RX8) (T := TX8) (N := 10) hx hb hts in8 hown hK hP 0 rfl rfl 0 (by decide) f7 (fun _ h9 => h9) rfl dX8_goBack_57 ?_
        refine lv_iconst (v := (nI 2)) hx hb dX8_goBack_60 (by decide) ?_
        refine r_iald_n hx hb hK hP 1 rfl (k := 2) (by omega) (by omega) dX8_goBack_61 ?_
        refine r_top (show (s 2) = (nI (nB s)) from (hW.b)) ?_
        refine lv_istore_n (lv' := [(2, .int (nI (nB s))), (0, .ref m0), (1, .int (nI ek_))]) hx hb dX8_goBack_62 rfl hl (by decide) rfl (fun ls hl => ?_)
        refine lv_iload_n hx hb dX8_goBack_63 rfl (lv_at hl 2 rfl) ?_
        refine lv_aload_n hx hb dX8_goBack_64 rfl (lv_at hl 1 rfl) ?_
        refine va_get (D := dg) (ci := 8) (v := .ref ms) (C := RX8) (T := TX8) (N := 10) hx hb hts in8 hown hK hP 0 rfl rfl 0 (by decide) f7 (fun _ h9 => h9) rfl dX8_goBack_65 ?_
        refine lv_iconst (v := (nI 1)) hx hb dX8_goBack_68 (by decide) ?_
        refine r_iald_n hx hb hK hP 1 rfl (k := 1) (by omega) (by omega) dX8_goBack_69 ?_
        refine r_top (show (s 1) = (nI (hE s)) from (hW.h)) ?_
        refine r_icmp_eq (tgt := 154) hx hb (nI_tI (by omega)) (nI_tI (by omega)) dX8_goBack_70 (by decide) (fun c70 => ?_) (fun c70 => False.elim (by omega))
        refine lv_iload_n hx hb dX8_goBack_154 rfl (lv_at hl 0 rfl) ?_
        exact hret (nI (nB s)) (s, (recW was s st), (recN st)) H locs _ ls (show (nI (nB s)) = (gbR s (nI ek_)) ∧ (MACT s was st (gbO s (nI ek_)) (gbS s (nI ek_)) s (recW was s st) (recN st)) from (⟨by unfold gbR; rw [c5, if_pos rfl, cl_n (show ek_ < 2147483648 by omega), c22, if_pos rfl, if_neg (by omega)], MACT.yes (by unfold gbO gbX; rw [c5, cl_n (show ek_ < 2147483648 by omega), c22, decide_eq_true (show ek_ = hE s by omega)]; rfl) (by unfold gbS; rw [cl_n (show ek_ < 2147483648 by omega), if_pos (by omega)])⟩)) rfl (hP.sub [0, 1, 2] rfl) (hD.sub [0, 1, 2] (by decide) rfl) hS dX8_goBack_155
      · skip
        refine lv_aload_n hx hb dX8_goBack_38 rfl (lv_at hl 0 rfl) ?_
        refine va_get (D := dg) (ci := 8) (v := .ref ms) (C := RX8) (T := TX8) (N := 10) hx hb hts in8 hown hK hP 0 rfl rfl 0 (by decide) f7 (fun _ h9 => h9) rfl dX8_goBack_39 ?_
        refine lv_iconst (v := (nI 2)) hx hb dX8_goBack_42 (by decide) ?_
        refine r_iald_n hx hb hK hP 1 rfl (k := 2) (by omega) (by omega) dX8_goBack_43 ?_
        refine r_top (show (s 2) = (nI (nB s)) from (hW.b)) ?_
        refine lv_bipush (v := (nI 10)) hx hb dX8_goBack_44 (by decide) ?_
        refine r_icmp_ne (tgt := 52) hx hb (nI_tI (by omega)) (nI_tI (by omega)) dX8_goBack_46 (by decide) (fun c46 => ?_) (fun c46 => ?_)
        · skip
          refine lv_aload_n hx hb dX8_goBack_52 rfl (lv_at hl 0 rfl) ?_
          refine call_v (wr := []) (va_runV (As := []) (rest := []) ⟨hx, hb, hml, hown, hts⟩ (kX8_records ln dg tq (m0 := m0) (ms := ms) (mw := mw) (mt := mt) (su := su) (pt := pt) (td := td) (wy := wy) (xt := xt) (xa := xa) (st := st) (hst := (by omega)) (s := s) (was := was) H.size) (cwV 0 hts gX8_goBack_X8_records rfl rfl rfl hdX8_records ⟨Nat.le_of_ble_eq_true rfl, Nat.le_of_ble_eq_true rfl⟩) (preVB hK hN hP hD [0, 1, 2] rfl rfl rfl 0 rfl rfl []) rfl rfl hl.1 rfl (lv_room (Nat.le_of_ble_eq_true rfl)) dX8_goBack_53 ⟨Nat.le_refl _, Nat.le_refl _⟩) hP hD hS hA [0, 1, 2] [] rfl rfl (by decide) (by decide) (fun u53 H locs hw53 hP hD hS => ?_)
          have hP : va_P dg vwCl [(m0, .inr (8, [.ref ms, .ref mw, .int (nI (recN st)), .ref mt, .int xt, .int xa, .ref su, .ref pt, .ref td, .ref wy])), (ms, .inl (tq.1, 1445, .inl s)), (mw, .inl (tq.1, 7225, .inl (recW was s st)))] H := hP
          have hD : va_D AA [(m0, .inr (8, [.ref ms, .ref mw, .int (nI (recN st)), .ref mt, .int xt, .int xa, .ref su, .ref pt, .ref td, .ref wy])), (ms, .inl (tq.1, 1445, .inl s)), (mw, .inl (tq.1, 7225, .inl (recW was s st)))] := hD
          refine lv_aload_n hx hb dX8_goBack_56 rfl (lv_at hl 0 rfl) ?_
          refine va_get (D := dg) (ci := 8) (v := .ref ms) (C := RX8) (T := TX8) (N := 10) hx hb hts in8 hown hK hP 0 rfl rfl 0 (by decide) f7 (fun _ h9 => h9) rfl dX8_goBack_57 ?_
          refine lv_iconst (v := (nI 2)) hx hb dX8_goBack_60 (by decide) ?_
          refine r_iald_n hx hb hK hP 1 rfl (k := 2) (by omega) (by omega) dX8_goBack_61 ?_
          refine r_top (show (s 2) = (nI (nB s)) from (hW.b)) ?_
          refine lv_istore_n (lv' := [(2, .int (nI (nB s))), (0, .ref m0), (1, .int (nI ek_))]) hx hb dX8_goBack_62 rfl hl (by decide) rfl (fun ls hl => ?_)
          refine lv_iload_n hx hb dX8_goBack_63 rfl (lv_at hl 2 rfl) ?_
          refine lv_aload_n hx hb dX8_goBack_64 rfl (lv_at hl 1 rfl) ?_
          refine va_get (D := dg) (ci := 8) (v := .ref ms) (C := RX8) (T := TX8) (N := 10) hx hb hts in8 hown hK hP 0 rfl rfl 0 (by decide) f7 (fun _ h9 => h9) rfl dX8_goBack_65 ?_
          refine lv_iconst (v := (nI 1)) hx hb dX8_goBack_68 (by decide) ?_
          refine r_iald_n hx hb hK hP 1 rfl (k := 1) (by omega) (by omega) dX8_goBack_69 ?_
          refine r_top (show (s 1) = (nI (hE s)) from (hW.h)) ?_
          refine r_icmp_eq (tgt := 154) hx hb (nI_tI (by omega)) (nI_tI (by omega)) dX8_goBack_70 (by decide) (fun c70 => False.elim (by omega)) (fun c70 => ?_)
          obtain ⟨hd1, hd2, hd3⟩ := dep_on hW hW.hn c22
          have hd3 := hd3 (by omega)
          have hd4 := dep_ge1 s ek_
          have hdl := dep_le hW _ hW.hn
          have eN : nE (upd s (425 + 4 * nB s + 0) (nI (hE s))) = nE s := by unfold nE; rw [pk_un (by omega)]
          refine lv_sipush (v := (nI 425)) hx hb dX8_goBack_73 (by decide) ?_
          refine lv_iconst (v := (nI 4)) hx hb dX8_goBack_76 (by decide) ?_
          refine lv_iload_n hx hb dX8_goBack_77 rfl (lv_at hl 0 rfl) ?_
          refine r_imul_n hx hb dX8_goBack_78 ?_
          refine r_iadd_n hx hb dX8_goBack_79 ?_
          refine lv_istore_n (lv' := [(3, .int (nI (425 + (4 * (nB s))))), (2, .int (nI (nB s))), (0, .ref m0), (1, .int (nI ek_))]) hx hb dX8_goBack_80 rfl hl (by decide) rfl (fun ls hl => ?_)
          refine lv_aload_n hx hb dX8_goBack_81 rfl (lv_at hl 2 rfl) ?_
          refine va_get (D := dg) (ci := 8) (v := .ref ms) (C := RX8) (T := TX8) (N := 10) hx hb hts in8 hown hK hP 0 rfl rfl 0 (by decide) f7 (fun _ h9 => h9) rfl dX8_goBack_82 ?_
          refine lv_iload_n hx hb dX8_goBack_85 rfl (lv_at hl 0 rfl) ?_
          refine lv_iconst (v := (nI 0)) hx hb dX8_goBack_86 (by decide) ?_
          refine r_iadd_n hx hb dX8_goBack_87 ?_
          refine lv_aload_n hx hb dX8_goBack_88 rfl (lv_at hl 2 rfl) ?_
          refine va_get (D := dg) (ci := 8) (v := .ref ms) (C := RX8) (T := TX8) (N := 10) hx hb hts in8 hown hK hP 0 rfl rfl 0 (by decide) f7 (fun _ h9 => h9) rfl dX8_goBack_89 ?_
          refine lv_iconst (v := (nI 1)) hx hb dX8_goBack_92 (by decide) ?_
          refine r_iald_n hx hb hK hP 1 rfl (k := 1) (by omega) (by omega) dX8_goBack_93 ?_
          refine r_top (show (s 1) = (nI (hE s)) from (hW.h)) ?_
          refine r_iast_n hx hb hK hP hD hS 1 rfl (k := ((425 + (4 * (nB s))) + 0)) (by omega) (by omega) dX8_goBack_94 (fun H locs hP hD hS => ?_)
          have hP : va_P dg vwCl [(m0, .inr (8, [.ref ms, .ref mw, .int (nI (recN st)), .ref mt, .int xt, .int xa, .ref su, .ref pt, .ref td, .ref wy])), (ms, .inl (tq.1, 1445, .inl (upd s ((425 + (4 * (nB s))) + 0) (nI (hE s))))), (mw, .inl (tq.1, 7225, .inl (recW was s st)))] H := hP
          have hD : va_D AA [(m0, .inr (8, [.ref ms, .ref mw, .int (nI (recN st)), .ref mt, .int xt, .int xa, .ref su, .ref pt, .ref td, .ref wy])), (ms, .inl (tq.1, 1445, .inl (upd s ((425 + (4 * (nB s))) + 0) (nI (hE s))))), (mw, .inl (tq.1, 7225, .inl (recW was s st)))] := hD
          refine lv_aload_n hx hb dX8_goBack_95 rfl (lv_at hl 2 rfl) ?_
          refine va_get (D := dg) (ci := 8) (v := .ref ms) (C := RX8) (T := TX8) (N := 10) hx hb hts in8 hown hK hP 0 rfl rfl 0 (by decide) f7 (fun _ h9 => h9) rfl dX8_goBack_96 ?_
          refine lv_iload_n hx hb dX8_goBack_99 rfl (lv_at hl 0 rfl) ?_
          refine lv_iconst (v := (nI 1)) hx hb dX8_goBack_100 (by decide) ?_
          refine r_iadd_n hx hb dX8_goBack_101 ?_
          refine lv_aload_n hx hb dX8_goBack_102 rfl (lv_at hl 2 rfl) ?_
          refine lv_aload_n hx hb dX8_goBack_103 rfl (lv_at hl 2 rfl) ?_
          refine va_get (D := dg) (ci := 8) (v := .ref ms) (C := RX8) (T := TX8) (N := 10) hx hb hts in8 hown hK hP 0 rfl rfl 0 (by decide) f7 (fun _ h9 => h9) rfl dX8_goBack_104 ?_
          refine lv_iconst (v := (nI 1)) hx hb dX8_goBack_107 (by decide) ?_
          refine r_iald_n hx hb hK hP 1 rfl (k := 1) (by omega) (by omega) dX8_goBack_108 ?_
          refine r_top (show ((upd s ((425 + (4 * (nB s))) + 0) (nI (hE s))) 1) = (nI (hE s)) from by rw [pk_un (by omega)]; exact hW.h) ?_
          refine call_x (va_runV (As := [.int (nI (hE s))]) (rest := [.int (nI ((425 + (4 * (nB s))) + 1)), .ref ms]) ⟨hx, hb, hml, hown, hts⟩ (kX8_depth ln dg tq (m0 := m0) (ms := ms) (mw := mw) (mt := mt) (su := su) (pt := pt) (td := td) (wy := wy) (xs := (nI (recN st))) (xt := xt) (xa := xa) (s := upd s ((425 + (4 * (nB s))) + 0) (nI (hE s))) (hW := (WF_fr hW (show 425 + 4 * nB s ≤ 425 + 4 * nB s + 0 by omega) (by omega))) (y := hE s) (hy := (by rw [eN]; omega)) H.size) (cwV 1 hts gX8_goBack_X8_depth rfl rfl rfl hdX8_depth ⟨Nat.le_of_ble_eq_true rfl, Nat.le_of_ble_eq_true rfl⟩) (preVR hK hN hP [0, 1] rfl 0 rfl rfl [.int (nI (hE s))]) rfl rfl hl.1 rfl (lv_room (Nat.le_of_ble_eq_true rfl)) dX8_goBack_109 ⟨Nat.le_refl _, Nat.le_refl _⟩) hP hS hA (fun H locs hP hS => ?_)
          refine r_top (show (nI (dep (upd s ((425 + (4 * (nB s))) + 0) (nI (hE s))) (hE s))) = (nI (dep s (hE s))) from by rw [dep_same hW (SE_up hW (by omega)) hW.hn]) ?_
          refine lv_aload_n hx hb dX8_goBack_112 rfl (lv_at hl 2 rfl) ?_
          refine lv_iload_n hx hb dX8_goBack_113 rfl (lv_at hl 3 rfl) ?_
          refine call_x (va_runV (As := [.int (nI ek_)]) (rest := [.int (nI (dep s (hE s))), .int (nI ((425 + (4 * (nB s))) + 1)), .ref ms]) ⟨hx, hb, hml, hown, hts⟩ (kX8_depth ln dg tq (m0 := m0) (ms := ms) (mw := mw) (mt := mt) (su := su) (pt := pt) (td := td) (wy := wy) (xs := (nI (recN st))) (xt := xt) (xa := xa) (s := upd s ((425 + (4 * (nB s))) + 0) (nI (hE s))) (hW := (WF_fr hW (show 425 + 4 * nB s ≤ 425 + 4 * nB s + 0 by omega) (by omega))) (y := ek_) (hy := (by rw [eN]; omega)) H.size) (cwV 1 hts gX8_goBack_X8_depth rfl rfl rfl hdX8_depth ⟨Nat.le_of_ble_eq_true rfl, Nat.le_of_ble_eq_true rfl⟩) (preVR hK hN hP [0, 1] rfl 0 rfl rfl [.int (nI ek_)]) rfl rfl hl.1 rfl (lv_room (Nat.le_of_ble_eq_true rfl)) dX8_goBack_114 ⟨Nat.le_refl _, Nat.le_refl _⟩) hP hS hA (fun H locs hP hS => ?_)
          refine r_top (show (nI (dep (upd s ((425 + (4 * (nB s))) + 0) (nI (hE s))) ek_)) = (nI (dep s ek_)) from by rw [dep_same hW (SE_up hW (by omega)) (by omega)]) ?_
          refine r_isub_n hx hb (by omega) dX8_goBack_117 ?_
          refine r_iast_n hx hb hK hP hD hS 1 rfl (k := ((425 + (4 * (nB s))) + 1)) (by omega) (by omega) dX8_goBack_118 (fun H locs hP hD hS => ?_)
          have hP : va_P dg vwCl [(m0, .inr (8, [.ref ms, .ref mw, .int (nI (recN st)), .ref mt, .int xt, .int xa, .ref su, .ref pt, .ref td, .ref wy])), (ms, .inl (tq.1, 1445, .inl (upd (upd s ((425 + (4 * (nB s))) + 0) (nI (hE s))) ((425 + (4 * (nB s))) + 1) (nI ((dep s (hE s)) - (dep s ek_)))))), (mw, .inl (tq.1, 7225, .inl (recW was s st)))] H := hP
          have hD : va_D AA [(m0, .inr (8, [.ref ms, .ref mw, .int (nI (recN st)), .ref mt, .int xt, .int xa, .ref su, .ref pt, .ref td, .ref wy])), (ms, .inl (tq.1, 1445, .inl (upd (upd s ((425 + (4 * (nB s))) + 0) (nI (hE s))) ((425 + (4 * (nB s))) + 1) (nI ((dep s (hE s)) - (dep s ek_)))))), (mw, .inl (tq.1, 7225, .inl (recW was s st)))] := hD
          refine lv_aload_n hx hb dX8_goBack_119 rfl (lv_at hl 2 rfl) ?_
          refine va_get (D := dg) (ci := 8) (v := .ref ms) (C := RX8) (T := TX8) (N := 10) hx hb hts in8 hown hK hP 0 rfl rfl 0 (by decide) f7 (fun _ h9 => h9) rfl dX8_goBack_120 ?_
          refine lv_iload_n hx hb dX8_goBack_123 rfl (lv_at hl 0 rfl) ?_
          refine lv_iconst (v := (nI 2)) hx hb dX8_goBack_124 (by decide) ?_
          refine r_iadd_n hx hb dX8_goBack_125 ?_
          refine lv_iconst (v := (nI 0)) hx hb dX8_goBack_126 (by decide) ?_
          refine r_iast_n hx hb hK hP hD hS 1 rfl (k := ((425 + (4 * (nB s))) + 2)) (by omega) (by omega) dX8_goBack_127 (fun H locs hP hD hS => ?_)
          have hP : va_P dg vwCl [(m0, .inr (8, [.ref ms, .ref mw, .int (nI (recN st)), .ref mt, .int xt, .int xa, .ref su, .ref pt, .ref td, .ref wy])), (ms, .inl (tq.1, 1445, .inl (upd (upd (upd s ((425 + (4 * (nB s))) + 0) (nI (hE s))) ((425 + (4 * (nB s))) + 1) (nI ((dep s (hE s)) - (dep s ek_)))) ((425 + (4 * (nB s))) + 2) (nI 0)))), (mw, .inl (tq.1, 7225, .inl (recW was s st)))] H := hP
          have hD : va_D AA [(m0, .inr (8, [.ref ms, .ref mw, .int (nI (recN st)), .ref mt, .int xt, .int xa, .ref su, .ref pt, .ref td, .ref wy])), (ms, .inl (tq.1, 1445, .inl (upd (upd (upd s ((425 + (4 * (nB s))) + 0) (nI (hE s))) ((425 + (4 * (nB s))) + 1) (nI ((dep s (hE s)) - (dep s ek_)))) ((425 + (4 * (nB s))) + 2) (nI 0)))), (mw, .inl (tq.1, 7225, .inl (recW was s st)))] := hD
          refine lv_aload_n hx hb dX8_goBack_128 rfl (lv_at hl 2 rfl) ?_
          refine va_get (D := dg) (ci := 8) (v := .ref ms) (C := RX8) (T := TX8) (N := 10) hx hb hts in8 hown hK hP 0 rfl rfl 0 (by decide) f7 (fun _ h9 => h9) rfl dX8_goBack_129 ?_
          refine lv_iload_n hx hb dX8_goBack_132 rfl (lv_at hl 0 rfl) ?_
          refine lv_iconst (v := (nI 3)) hx hb dX8_goBack_133 (by decide) ?_
          refine r_iadd_n hx hb dX8_goBack_134 ?_
          refine lv_iconst (v := (nI 0)) hx hb dX8_goBack_135 (by decide) ?_
          refine r_iast_n hx hb hK hP hD hS 1 rfl (k := ((425 + (4 * (nB s))) + 3)) (by omega) (by omega) dX8_goBack_136 (fun H locs hP hD hS => ?_)
          have hP : va_P dg vwCl [(m0, .inr (8, [.ref ms, .ref mw, .int (nI (recN st)), .ref mt, .int xt, .int xa, .ref su, .ref pt, .ref td, .ref wy])), (ms, .inl (tq.1, 1445, .inl (upd (upd (upd (upd s ((425 + (4 * (nB s))) + 0) (nI (hE s))) ((425 + (4 * (nB s))) + 1) (nI ((dep s (hE s)) - (dep s ek_)))) ((425 + (4 * (nB s))) + 2) (nI 0)) ((425 + (4 * (nB s))) + 3) (nI 0)))), (mw, .inl (tq.1, 7225, .inl (recW was s st)))] H := hP
          have hD : va_D AA [(m0, .inr (8, [.ref ms, .ref mw, .int (nI (recN st)), .ref mt, .int xt, .int xa, .ref su, .ref pt, .ref td, .ref wy])), (ms, .inl (tq.1, 1445, .inl (upd (upd (upd (upd s ((425 + (4 * (nB s))) + 0) (nI (hE s))) ((425 + (4 * (nB s))) + 1) (nI ((dep s (hE s)) - (dep s ek_)))) ((425 + (4 * (nB s))) + 2) (nI 0)) ((425 + (4 * (nB s))) + 3) (nI 0)))), (mw, .inl (tq.1, 7225, .inl (recW was s st)))] := hD
          refine lv_aload_n hx hb dX8_goBack_137 rfl (lv_at hl 2 rfl) ?_
          refine va_get (D := dg) (ci := 8) (v := .ref ms) (C := RX8) (T := TX8) (N := 10) hx hb hts in8 hown hK hP 0 rfl rfl 0 (by decide) f7 (fun _ h9 => h9) rfl dX8_goBack_138 ?_
          refine lv_iconst (v := (nI 2)) hx hb dX8_goBack_141 (by decide) ?_
          refine lv_dup2_11 hx hb dX8_goBack_142 rfl rfl ?_
          refine r_iald_n hx hb hK hP 1 rfl (k := 2) (by omega) (by omega) dX8_goBack_143 ?_
          refine r_top (show ((upd (upd (upd (upd s ((425 + (4 * (nB s))) + 0) (nI (hE s))) ((425 + (4 * (nB s))) + 1) (nI ((dep s (hE s)) - (dep s ek_)))) ((425 + (4 * (nB s))) + 2) (nI 0)) ((425 + (4 * (nB s))) + 3) (nI 0)) 2) = (nI (nB s)) from by (repeat rw [pk_un (by omega)]); exact hW.b) ?_
          refine lv_iconst (v := (nI 1)) hx hb dX8_goBack_144 (by decide) ?_
          refine r_iadd_n hx hb dX8_goBack_145 ?_
          refine r_iast_n hx hb hK hP hD hS 1 rfl (k := 2) (by omega) (by omega) dX8_goBack_146 (fun H locs hP hD hS => ?_)
          have hP : va_P dg vwCl [(m0, .inr (8, [.ref ms, .ref mw, .int (nI (recN st)), .ref mt, .int xt, .int xa, .ref su, .ref pt, .ref td, .ref wy])), (ms, .inl (tq.1, 1445, .inl (upd (upd (upd (upd (upd s ((425 + (4 * (nB s))) + 0) (nI (hE s))) ((425 + (4 * (nB s))) + 1) (nI ((dep s (hE s)) - (dep s ek_)))) ((425 + (4 * (nB s))) + 2) (nI 0)) ((425 + (4 * (nB s))) + 3) (nI 0)) 2 (nI ((nB s) + 1))))), (mw, .inl (tq.1, 7225, .inl (recW was s st)))] H := hP
          have hD : va_D AA [(m0, .inr (8, [.ref ms, .ref mw, .int (nI (recN st)), .ref mt, .int xt, .int xa, .ref su, .ref pt, .ref td, .ref wy])), (ms, .inl (tq.1, 1445, .inl (upd (upd (upd (upd (upd s ((425 + (4 * (nB s))) + 0) (nI (hE s))) ((425 + (4 * (nB s))) + 1) (nI ((dep s (hE s)) - (dep s ek_)))) ((425 + (4 * (nB s))) + 2) (nI 0)) ((425 + (4 * (nB s))) + 3) (nI 0)) 2 (nI ((nB s) + 1))))), (mw, .inl (tq.1, 7225, .inl (recW was s st)))] := hD
          refine lv_aload_n hx hb dX8_goBack_147 rfl (lv_at hl 2 rfl) ?_
          refine va_get (D := dg) (ci := 8) (v := .ref ms) (C := RX8) (T := TX8) (N := 10) hx hb hts in8 hown hK hP 0 rfl rfl 0 (by decide) f7 (fun _ h9 => h9) rfl dX8_goBack_148 ?_
          refine lv_iconst (v := (nI 1)) hx hb dX8_goBack_151 (by decide) ?_
          refine lv_iload_n hx hb dX8_goBack_152 rfl (lv_at hl 3 rfl) ?_
          refine r_iast_n hx hb hK hP hD hS 1 rfl (k := 1) (by omega) (by omega) dX8_goBack_153 (fun H locs hP hD hS => ?_)
          have hP : va_P dg vwCl [(m0, .inr (8, [.ref ms, .ref mw, .int (nI (recN st)), .ref mt, .int xt, .int xa, .ref su, .ref pt, .ref td, .ref wy])), (ms, .inl (tq.1, 1445, .inl (upd (upd (upd (upd (upd (upd s ((425 + (4 * (nB s))) + 0) (nI (hE s))) ((425 + (4 * (nB s))) + 1) (nI ((dep s (hE s)) - (dep s ek_)))) ((425 + (4 * (nB s))) + 2) (nI 0)) ((425 + (4 * (nB s))) + 3) (nI 0)) 2 (nI ((nB s) + 1))) 1 (nI ek_)))), (mw, .inl (tq.1, 7225, .inl (recW was s st)))] H := hP
          have hD : va_D AA [(m0, .inr (8, [.ref ms, .ref mw, .int (nI (recN st)), .ref mt, .int xt, .int xa, .ref su, .ref pt, .ref td, .ref wy])), (ms, .inl (tq.1, 1445, .inl (upd (upd (upd (upd (upd (upd s ((425 + (4 * (nB s))) + 0) (nI (hE s))) ((425 + (4 * (nB s))) + 1) (nI ((dep s (hE s)) - (dep s ek_)))) ((425 + (4 * (nB s))) + 2) (nI 0)) ((425 + (4 * (nB s))) + 3) (nI 0)) 2 (nI ((nB s) + 1))) 1 (nI ek_)))), (mw, .inl (tq.1, 7225, .inl (recW was s st)))] := hD
          refine lv_iload_n hx hb dX8_goBack_154 rfl (lv_at hl 1 rfl) ?_
          exact hret (nI (nB s)) ((upd (upd (upd (upd (upd (upd s ((425 + (4 * (nB s))) + 0) (nI (hE s))) ((425 + (4 * (nB s))) + 1) (nI ((dep s (hE s)) - (dep s ek_)))) ((425 + (4 * (nB s))) + 2) (nI 0)) ((425 + (4 * (nB s))) + 3) (nI 0)) 2 (nI ((nB s) + 1))) 1 (nI ek_)), (recW was s st), (recN st)) H locs _ ls (show (nI (nB s)) = (gbR s (nI ek_)) ∧ (MACT s was st (gbO s (nI ek_)) (gbS s (nI ek_)) (upd (upd (upd (upd (upd (upd s ((425 + (4 * (nB s))) + 0) (nI (hE s))) ((425 + (4 * (nB s))) + 1) (nI ((dep s (hE s)) - (dep s ek_)))) ((425 + (4 * (nB s))) + 2) (nI 0)) ((425 + (4 * (nB s))) + 3) (nI 0)) 2 (nI ((nB s) + 1))) 1 (nI ek_)) (recW was s st) (recN st)) from (⟨by unfold gbR; rw [c5, if_pos rfl, cl_n (show ek_ < 2147483648 by omega), c22, if_pos rfl, if_neg (by omega)], MACT.yes (by unfold gbO gbX; rw [c5, cl_n (show ek_ < 2147483648 by omega), c22, decide_eq_false (show ¬ ek_ = hE s by omega), decide_eq_false (show ¬ nB s = 10 by omega)]; rfl) (by unfold gbS; rw [cl_n (show ek_ < 2147483648 by omega), if_neg (by omega)]; rfl)⟩)) rfl (hP.sub [0, 1, 2] rfl) (hD.sub [0, 1, 2] (by decide) rfl) hS dX8_goBack_155
        · skip
          refine lv_ldc hx hb hown k72 dX8_goBack_49 ?_
          exact hret (-100003) (s, was, st) H locs _ ls (show (-100003) = (gbR s (nI ek_)) ∧ (MACT s was st (gbO s (nI ek_)) (gbS s (nI ek_)) s was st) from (⟨by unfold gbR; rw [c5, if_pos rfl, cl_n (show ek_ < 2147483648 by omega), c22, if_pos rfl, if_pos (by omega)], MACT.no (by unfold gbO gbX; rw [c5, cl_n (show ek_ < 2147483648 by omega), c22, decide_eq_false (show ¬ ek_ = hE s by omega), decide_eq_true (show nB s = 10 by omega)]; rfl)⟩)) rfl (hP.sub [0, 1, 2] rfl) (hD.sub [0, 1, 2] (by decide) rfl) hS dX8_goBack_51
    · skip
      refine lv_ldc hx hb hown k71 dX8_goBack_25 ?_
      exact hret (-100002) (s, was, st) H locs _ ls (show (-100002) = (gbR s (nI ek_)) ∧ (MACT s was st (gbO s (nI ek_)) (gbS s (nI ek_)) s was st) from (⟨by unfold gbR; rw [c5, if_pos rfl, cl_n (show ek_ < 2147483648 by omega), c22]; rfl, MACT.no (by unfold gbO gbX; rw [c5, cl_n (show ek_ < 2147483648 by omega), c22]; rfl)⟩)) rfl (hP.sub [0, 1, 2] rfl) (hD.sub [0, 1, 2] (by decide) rfl) hS dX8_goBack_27
  · skip
    refine lv_ldc hx hb hown k84 dX8_goBack_8 ?_
    exact hret (-100001) (s, was, st) H locs _ ls (show (-100001) = (gbR s x) ∧ (MACT s was st (gbO s x) (gbS s x) s was st) from (⟨by unfold gbR; rw [c5]; rfl, MACT.no (by unfold gbO; rw [c5]; rfl)⟩)) rfl (hP.sub [0, 1, 2] rfl) (hD.sub [0, 1, 2] (by decide) rfl) hS dX8_goBack_10
theorem hdX8_setPatience : yX8_setPatience.cls = RX8 ∧ yX8_setPatience.cls ≠ "java/lang/invoke/MethodHandle" ∧ yX8_setPatience.cls ≠ "java/lang/invoke/VarHandle" ∧ (parseMethodDescriptor yX8_setPatience.desc).map (fun d => d.parameters.length) = some 1 := by decide +kernel
set_option maxHeartbeats 4000000 in
set_option maxRecDepth 100000 in
theorem kX8_setPatience (ln : Launch) (dg : va_G) (tq : ClassId × ClassId) (m0 ms mw mt su pt td wy : Nat) (xt xa : Int32) (st : Nat) (hst : st ≤ 5) (s was : Row) (hW : WF s) (x : Int32) : MW ln yX8_setPatience wsX8_setPatience (rmm 1 22) dg tq [.ref m0, .int x] [(m0, .inr (8, [.ref ms, .ref mw, .int (nI st), .ref mt, .int xt, .int xa, .ref su, .ref pt, .ref td, .ref wy])), (ms, .inl (tq.1, 1445, .inl s)), (mw, .inl (tq.1, 7225, .inl was))] (fun (r : Int32) (u : Row × Row × Nat) => r = (ptR s x) ∧ (MACT s was st (ptO x) (ptS s x) u.1 u.2.1 u.2.2)) (fun u => [(m0, .inr (8, [.ref ms, .ref mw, .int (nI u.2.2), .ref mt, .int xt, .int xa, .ref su, .ref pt, .ref td, .ref wy])), (ms, .inl (tq.1, 1445, .inl u.1)), (mw, .inl (tq.1, 7225, .inl u.2.1))]) := by
  refine MW.enter cX8_setPatience 3 .int (by decide) rfl rfl (Nat.le_of_ble_eq_true rfl) ?_
  intro pP eE sS mM aA bB mT cC QQ AA hA hAT hret H locs hP hD hS ls hl
  obtain ⟨hx, hb, hml, hown, hts, hK, hN⟩ := hAT
  have hown : sS.vm.findClass RX8 = some mM.cls := hown
  have hl : lv_has ls 3 [(0, .ref m0), (1, .int x)] := hl
  have in8 : ∀ w ∈ u_ws RX8 TX8 10, w ∈ wsX8_setPatience := (fun _ h9 => List.mem_cons_of_mem _ (List.mem_append_right _ h9))
  have f7 := hts (.fieldLink RX8 7 "OrphanChainModel" "s" "[I") (List.mem_of_getElem? (i := 2) rfl)
  have k84 := hts (.constant RX8 84 (-100001)) (List.mem_of_getElem? (i := 1) rfl)
  have hn60 := hW.n60
  have hb10 := hW.b10
  have hs8 := hW.s8
  have hhn := hW.hn
  refine lv_iload_n hx hb dX8_setPatience_0 rfl (lv_at hl 1 rfl) ?_
  refine lv_iconst (v := (nI 1)) hx hb dX8_setPatience_1 (by decide) ?_
  refine lv_bipush (v := (nI 30)) hx hb dX8_setPatience_2 (by decide) ?_
  refine call_x (va_runS (As := [.int x, .int (nI 1), .int (nI 30)]) (rest := []) ⟨hx, hb, hml, hown, hts⟩ (kX8_in ln dg tq (v := x) (lo := (nI 1)) (hi := (nI 30)) H.size) (va_cwS 3 hts gX8_setPatience_X8_in rfl rfl rfl hdX8_in.2 ⟨Nat.le_of_ble_eq_true rfl, Nat.le_of_ble_eq_true rfl⟩) (preS0 hK hN [.int x, .int (nI 1), .int (nI 30)]) rfl rfl hl.1 rfl (lv_room (Nat.le_of_ble_eq_true rfl)) dX8_setPatience_4 ⟨Nat.le_refl _, Nat.le_refl _⟩) hP hS hA (fun H locs hP hS => ?_)
  refine r_if_ne_b (tgt := 13) hx hb dX8_setPatience_7 (by decide) (fun c7 => ?_) (fun c7 => ?_)
  · skip
    refine lv_aload_n hx hb dX8_setPatience_13 rfl (lv_at hl 0 rfl) ?_
    refine call_v (wr := []) (va_runV (As := []) (rest := []) ⟨hx, hb, hml, hown, hts⟩ (kX8_records ln dg tq (m0 := m0) (ms := ms) (mw := mw) (mt := mt) (su := su) (pt := pt) (td := td) (wy := wy) (xt := xt) (xa := xa) (st := st) (hst := (by omega)) (s := s) (was := was) H.size) (cwV 0 hts gX8_setPatience_X8_records rfl rfl rfl hdX8_records ⟨Nat.le_of_ble_eq_true rfl, Nat.le_of_ble_eq_true rfl⟩) (preVB hK hN hP hD [0, 1, 2] rfl rfl rfl 0 rfl rfl []) rfl rfl hl.1 rfl (lv_room (Nat.le_of_ble_eq_true rfl)) dX8_setPatience_14 ⟨Nat.le_refl _, Nat.le_refl _⟩) hP hD hS hA [0, 1, 2] [] rfl rfl (by decide) (by decide) (fun u14 H locs hw14 hP hD hS => ?_)
    have hP : va_P dg vwCl [(m0, .inr (8, [.ref ms, .ref mw, .int (nI (recN st)), .ref mt, .int xt, .int xa, .ref su, .ref pt, .ref td, .ref wy])), (ms, .inl (tq.1, 1445, .inl s)), (mw, .inl (tq.1, 7225, .inl (recW was s st)))] H := hP
    have hD : va_D AA [(m0, .inr (8, [.ref ms, .ref mw, .int (nI (recN st)), .ref mt, .int xt, .int xa, .ref su, .ref pt, .ref td, .ref wy])), (ms, .inl (tq.1, 1445, .inl s)), (mw, .inl (tq.1, 7225, .inl (recW was s st)))] := hD
    refine lv_aload_n hx hb dX8_setPatience_17 rfl (lv_at hl 0 rfl) ?_
    refine va_get (D := dg) (ci := 8) (v := .ref ms) (C := RX8) (T := TX8) (N := 10) hx hb hts in8 hown hK hP 0 rfl rfl 0 (by decide) f7 (fun _ h9 => h9) rfl dX8_setPatience_18 ?_
    refine lv_iconst (v := (nI 3)) hx hb dX8_setPatience_21 (by decide) ?_
    refine r_iald_n hx hb hK hP 1 rfl (k := 3) (by omega) (by omega) dX8_setPatience_22 ?_
    refine lv_istore_n (lv' := [(2, .int (s 3)), (0, .ref m0), (1, .int x)]) hx hb dX8_setPatience_23 rfl hl (by decide) rfl (fun ls hl => ?_)
    refine lv_aload_n hx hb dX8_setPatience_24 rfl (lv_at hl 1 rfl) ?_
    refine va_get (D := dg) (ci := 8) (v := .ref ms) (C := RX8) (T := TX8) (N := 10) hx hb hts in8 hown hK hP 0 rfl rfl 0 (by decide) f7 (fun _ h9 => h9) rfl dX8_setPatience_25 ?_
    refine lv_iconst (v := (nI 3)) hx hb dX8_setPatience_28 (by decide) ?_
    refine lv_iload_n hx hb dX8_setPatience_29 rfl (lv_at hl 2 rfl) ?_
    refine r_iast_n hx hb hK hP hD hS 1 rfl (k := 3) (by omega) (by omega) dX8_setPatience_30 (fun H locs hP hD hS => ?_)
    have hP : va_P dg vwCl [(m0, .inr (8, [.ref ms, .ref mw, .int (nI (recN st)), .ref mt, .int xt, .int xa, .ref su, .ref pt, .ref td, .ref wy])), (ms, .inl (tq.1, 1445, .inl (upd s 3 x))), (mw, .inl (tq.1, 7225, .inl (recW was s st)))] H := hP
    have hD : va_D AA [(m0, .inr (8, [.ref ms, .ref mw, .int (nI (recN st)), .ref mt, .int xt, .int xa, .ref su, .ref pt, .ref td, .ref wy])), (ms, .inl (tq.1, 1445, .inl (upd s 3 x))), (mw, .inl (tq.1, 7225, .inl (recW was s st)))] := hD
    refine lv_iload_n hx hb dX8_setPatience_31 rfl (lv_at hl 0 rfl) ?_
    exact hret (s 3) ((upd s 3 x), (recW was s st), (recN st)) H locs _ ls (show (s 3) = (ptR s x) ∧ (MACT s was st (ptO x) (ptS s x) (upd s 3 x) (recW was s st) (recN st)) from (⟨by unfold ptR; rw [c7]; rfl, MACT.yes c7 rfl⟩)) rfl (hP.sub [0, 1, 2] rfl) (hD.sub [0, 1, 2] (by decide) rfl) hS dX8_setPatience_32
  · skip
    refine lv_ldc hx hb hown k84 dX8_setPatience_10 ?_
    exact hret (-100001) (s, was, st) H locs _ ls (show (-100001) = (ptR s x) ∧ (MACT s was st (ptO x) (ptS s x) s was st) from (⟨by unfold ptR; rw [c7]; rfl, MACT.no c7⟩)) rfl (hP.sub [0, 1, 2] rfl) (hD.sub [0, 1, 2] (by decide) rfl) hS dX8_setPatience_12
theorem hdX8_dismiss : yX8_dismiss.cls = RX8 ∧ yX8_dismiss.cls ≠ "java/lang/invoke/MethodHandle" ∧ yX8_dismiss.cls ≠ "java/lang/invoke/VarHandle" ∧ (parseMethodDescriptor yX8_dismiss.desc).map (fun d => d.parameters.length) = some 1 := by decide +kernel
set_option maxHeartbeats 4000000 in
set_option maxRecDepth 100000 in
theorem kX8_dismiss (ln : Launch) (dg : va_G) (tq : ClassId × ClassId) (m0 ms mw mt su pt td wy : Nat) (xt xa : Int32) (st : Nat) (hst : st ≤ 5) (s was : Row) (hW : WF s) (x : Int32) : MW ln yX8_dismiss wsX8_dismiss (rmm 3 70) dg tq [.ref m0, .int x] [(m0, .inr (8, [.ref ms, .ref mw, .int (nI st), .ref mt, .int xt, .int xa, .ref su, .ref pt, .ref td, .ref wy])), (ms, .inl (tq.1, 1445, .inl s)), (mw, .inl (tq.1, 7225, .inl was))] (fun (r : Int32) (u : Row × Row × Nat) => r = (dsR s x) ∧ (MACT s was st (dsO s x) (dsS s x) u.1 u.2.1 u.2.2)) (fun u => [(m0, .inr (8, [.ref ms, .ref mw, .int (nI u.2.2), .ref mt, .int xt, .int xa, .ref su, .ref pt, .ref td, .ref wy])), (ms, .inl (tq.1, 1445, .inl u.1)), (mw, .inl (tq.1, 7225, .inl u.2.1))]) := by
  refine MW.enter cX8_dismiss 2 .int (by decide) rfl rfl (Nat.le_of_ble_eq_true rfl) ?_
  intro pP eE sS mM aA bB mT cC QQ AA hA hAT hret H locs hP hD hS ls hl
  obtain ⟨hx, hb, hml, hown, hts, hK, hN⟩ := hAT
  have hown : sS.vm.findClass RX8 = some mM.cls := hown
  have hl : lv_has ls 2 [(0, .ref m0), (1, .int x)] := hl
  have in8 : ∀ w ∈ u_ws RX8 TX8 10, w ∈ wsX8_dismiss := (fun _ h9 => List.mem_cons_of_mem _ (List.mem_append_right _ h9))
  have f7 := hts (.fieldLink RX8 7 "OrphanChainModel" "s" "[I") (List.mem_of_getElem? (i := 3) rfl)
  have k32 := hts (.constant RX8 32 (-100009)) (List.mem_of_getElem? (i := 5) rfl)
  have k72 := hts (.constant RX8 72 (-100003)) (List.mem_of_getElem? (i := 4) rfl)
  have k71 := hts (.constant RX8 71 (-100002)) (List.mem_of_getElem? (i := 2) rfl)
  have k84 := hts (.constant RX8 84 (-100001)) (List.mem_of_getElem? (i := 1) rfl)
  have hn60 := hW.n60
  have hb10 := hW.b10
  have hs8 := hW.s8
  have hhn := hW.hn
  refine lv_aload_n hx hb dX8_dismiss_0 rfl (lv_at hl 0 rfl) ?_
  refine lv_iload_n hx hb dX8_dismiss_1 rfl (lv_at hl 1 rfl) ?_
  refine call_x (va_runV (As := [.int x]) (rest := []) ⟨hx, hb, hml, hown, hts⟩ (kX8_isBranch ln dg tq (m0 := m0) (ms := ms) (mw := mw) (mt := mt) (su := su) (pt := pt) (td := td) (wy := wy) (xs := (nI st)) (xt := xt) (xa := xa) (s := s) (hW := hW) (x := x) H.size) (cwV 1 hts gX8_dismiss_X8_isBranch rfl rfl rfl hdX8_isBranch ⟨Nat.le_of_ble_eq_true rfl, Nat.le_of_ble_eq_true rfl⟩) (preVR hK hN hP [0, 1] rfl 0 rfl rfl [.int x]) rfl rfl hl.1 rfl (lv_room (Nat.le_of_ble_eq_true rfl)) dX8_dismiss_2 ⟨Nat.le_refl _, Nat.le_refl _⟩) hP hS hA (fun H locs hP hS => ?_)
  refine r_if_ne_b (tgt := 11) hx hb dX8_dismiss_5 (by decide) (fun c5 => ?_) (fun c5 => ?_)
  · skip
    obtain ⟨bk_, hbk, rfl⟩ := hasN_t c5
    refine lv_aload_n hx hb dX8_dismiss_11 rfl (lv_at hl 0 rfl) ?_
    refine lv_iload_n hx hb dX8_dismiss_12 rfl (lv_at hl 1 rfl) ?_
    refine call_x (va_runV (As := [.int (nI bk_)]) (rest := []) ⟨hx, hb, hml, hown, hts⟩ (kX8_isWaiting ln dg tq (m0 := m0) (ms := ms) (mw := mw) (mt := mt) (su := su) (pt := pt) (td := td) (wy := wy) (xs := (nI st)) (xt := xt) (xa := xa) (s := s) (b := bk_) (hb0 := (by omega)) H.size) (cwV 1 hts gX8_dismiss_X8_isWaiting rfl rfl rfl hdX8_isWaiting ⟨Nat.le_of_ble_eq_true rfl, Nat.le_of_ble_eq_true rfl⟩) (preVR hK hN hP [0, 1] rfl 0 rfl rfl [.int (nI bk_)]) rfl rfl hl.1 rfl (lv_room (Nat.le_of_ble_eq_true rfl)) dX8_dismiss_13 ⟨Nat.le_refl _, Nat.le_refl _⟩) hP hS hA (fun H locs hP hS => ?_)
    refine r_if_ne_b (tgt := 22) hx hb dX8_dismiss_16 (by decide) (fun c16 => ?_) (fun c16 => ?_)
    · skip
      refine lv_aload_n hx hb dX8_dismiss_22 rfl (lv_at hl 0 rfl) ?_
      refine va_get (D := dg) (ci := 8) (v := .ref ms) (C := RX8) (T := TX8) (N := 10) hx hb hts in8 hown hK hP 0 rfl rfl 0 (by decide) f7 (fun _ h9 => h9) rfl dX8_dismiss_23 ?_
      refine lv_iconst (v := (nI 0)) hx hb dX8_dismiss_26 (by decide) ?_
      refine r_iald_n hx hb hK hP 1 rfl (k := 0) (by omega) (by omega) dX8_dismiss_27 ?_
      refine r_top (show (s 0) = (nI (nE s)) from (hW.n)) ?_
      refine lv_bipush (v := (nI 60)) hx hb dX8_dismiss_28 (by decide) ?_
      refine r_icmp_ne (tgt := 36) hx hb (nI_tI (by omega)) (nI_tI (by omega)) dX8_dismiss_30 (by decide) (fun c30 => ?_) (fun c30 => ?_)
      · skip
        refine lv_aload_n hx hb dX8_dismiss_36 rfl (lv_at hl 0 rfl) ?_
        refine call_v (wr := []) (va_runV (As := []) (rest := []) ⟨hx, hb, hml, hown, hts⟩ (kX8_records ln dg tq (m0 := m0) (ms := ms) (mw := mw) (mt := mt) (su := su) (pt := pt) (td := td) (wy := wy) (xt := xt) (xa := xa) (st := st) (hst := (by omega)) (s := s) (was := was) H.size) (cwV 0 hts gX8_dismiss_X8_records rfl rfl rfl hdX8_records ⟨Nat.le_of_ble_eq_true rfl, Nat.le_of_ble_eq_true rfl⟩) (preVB hK hN hP hD [0, 1, 2] rfl rfl rfl 0 rfl rfl []) rfl rfl hl.1 rfl (lv_room (Nat.le_of_ble_eq_true rfl)) dX8_dismiss_37 ⟨Nat.le_refl _, Nat.le_refl _⟩) hP hD hS hA [0, 1, 2] [] rfl rfl (by decide) (by decide) (fun u37 H locs hw37 hP hD hS => ?_)
        have hP : va_P dg vwCl [(m0, .inr (8, [.ref ms, .ref mw, .int (nI (recN st)), .ref mt, .int xt, .int xa, .ref su, .ref pt, .ref td, .ref wy])), (ms, .inl (tq.1, 1445, .inl s)), (mw, .inl (tq.1, 7225, .inl (recW was s st)))] H := hP
        have hD : va_D AA [(m0, .inr (8, [.ref ms, .ref mw, .int (nI (recN st)), .ref mt, .int xt, .int xa, .ref su, .ref pt, .ref td, .ref wy])), (ms, .inl (tq.1, 1445, .inl s)), (mw, .inl (tq.1, 7225, .inl (recW was s st)))] := hD
        refine lv_aload_n hx hb dX8_dismiss_40 rfl (lv_at hl 0 rfl) ?_
        refine va_get (D := dg) (ci := 8) (v := .ref ms) (C := RX8) (T := TX8) (N := 10) hx hb hts in8 hown hK hP 0 rfl rfl 0 (by decide) f7 (fun _ h9 => h9) rfl dX8_dismiss_41 ?_
        refine lv_sipush (v := (nI 425)) hx hb dX8_dismiss_44 (by decide) ?_
        refine lv_iconst (v := (nI 4)) hx hb dX8_dismiss_47 (by decide) ?_
        refine lv_iload_n hx hb dX8_dismiss_48 rfl (lv_at hl 1 rfl) ?_
        refine r_imul_n hx hb dX8_dismiss_49 ?_
        refine r_iadd_n hx hb dX8_dismiss_50 ?_
        refine lv_iconst (v := (nI 3)) hx hb dX8_dismiss_51 (by decide) ?_
        refine r_iadd_n hx hb dX8_dismiss_52 ?_
        refine lv_iconst (v := (nI 3)) hx hb dX8_dismiss_53 (by decide) ?_
        refine r_iast_n hx hb hK hP hD hS 1 rfl (k := ((425 + (4 * bk_)) + 3)) (by omega) (by omega) dX8_dismiss_54 (fun H locs hP hD hS => ?_)
        have hP : va_P dg vwCl [(m0, .inr (8, [.ref ms, .ref mw, .int (nI (recN st)), .ref mt, .int xt, .int xa, .ref su, .ref pt, .ref td, .ref wy])), (ms, .inl (tq.1, 1445, .inl (upd s ((425 + (4 * bk_)) + 3) (nI 3)))), (mw, .inl (tq.1, 7225, .inl (recW was s st)))] H := hP
        have hD : va_D AA [(m0, .inr (8, [.ref ms, .ref mw, .int (nI (recN st)), .ref mt, .int xt, .int xa, .ref su, .ref pt, .ref td, .ref wy])), (ms, .inl (tq.1, 1445, .inl (upd s ((425 + (4 * bk_)) + 3) (nI 3)))), (mw, .inl (tq.1, 7225, .inl (recW was s st)))] := hD
        have eN : nE (upd s (425 + 4 * bk_ + 3) (nI 3)) = nE s := by unfold nE; rw [pk_un (by omega)]
        refine lv_aload_n hx hb dX8_dismiss_55 rfl (lv_at hl 0 rfl) ?_
        refine lv_iconst (v := (nI 4)) hx hb dX8_dismiss_56 (by decide) ?_
        refine lv_iconst (v := (nI 0)) hx hb dX8_dismiss_57 (by decide) ?_
        refine lv_iconst (v := (nI 0)) hx hb dX8_dismiss_58 (by decide) ?_
        refine lv_aload_n hx hb dX8_dismiss_59 rfl (lv_at hl 0 rfl) ?_
        refine lv_iload_n hx hb dX8_dismiss_60 rfl (lv_at hl 1 rfl) ?_
        refine lv_iconst (v := (nI 0)) hx hb dX8_dismiss_61 (by decide) ?_
        refine call_x (va_runV (As := [.int (nI bk_), .int (nI 0)]) (rest := [.int (nI 0), .int (nI 0), .int (nI 4), .ref m0]) ⟨hx, hb, hml, hown, hts⟩ (kX8_br ln dg tq (m0 := m0) (ms := ms) (mw := mw) (mt := mt) (su := su) (pt := pt) (td := td) (wy := wy) (xs := (nI (recN st))) (xt := xt) (xa := xa) (s := upd s ((425 + (4 * bk_)) + 3) (nI 3)) (b := bk_) (f := 0) (hb0 := (by omega)) (hf := (by omega)) H.size) (cwV 2 hts gX8_dismiss_X8_br rfl rfl rfl hdX8_br ⟨Nat.le_of_ble_eq_true rfl, Nat.le_of_ble_eq_true rfl⟩) (preVR hK hN hP [0, 1] rfl 0 rfl rfl [.int (nI bk_), .int (nI 0)]) rfl rfl hl.1 rfl (lv_room (Nat.le_of_ble_eq_true rfl)) dX8_dismiss_62 ⟨Nat.le_refl _, Nat.le_refl _⟩) hP hS hA (fun H locs hP hS => ?_)
        refine r_top (show ((upd s ((425 + (4 * bk_)) + 3) (nI 3)) (425 + 4 * bk_ + 0)) = (nI (lf s bk_)) from by rw [pk_un (by omega)]; exact (hW.br (b := bk_) (by omega)).1) ?_
        refine lv_ldc hx hb hown k32 dX8_dismiss_65 ?_
        refine call_w (wr := [(mw, .inl (tq.1, 7225, .inl (recW was s st)))]) (va_runV (As := [.int (nI 4), .int (nI 0), .int (nI 0), .int (nI (lf s bk_)), .int (-100009)]) (rest := []) ⟨hx, hb, hml, hown, hts⟩ (kX8_puts ln dg tq (m0 := m0) (ms := ms) (mw := mw) (mt := mt) (su := su) (pt := pt) (td := td) (wy := wy) (xs := (nI (recN st))) (xt := xt) (xa := xa) (s := upd s ((425 + (4 * bk_)) + 3) (nI 3)) (hW := (WF_st hW (show bk_ < 10 by omega) (nI 3))) (k := (nI 4)) (f := (nI 0)) (t := (nI 0)) (a := (nI (lf s bk_))) (o := (-100009)) (hn := (by rw [eN]; omega)) H.size) (cwV 5 hts gX8_dismiss_X8_puts rfl rfl rfl hdX8_puts ⟨Nat.le_of_ble_eq_true rfl, Nat.le_of_ble_eq_true rfl⟩) (preVB hK hN hP hD [0, 1] rfl rfl rfl 0 rfl rfl [.int (nI 4), .int (nI 0), .int (nI 0), .int (nI (lf s bk_)), .int (-100009)]) rfl rfl hl.1 rfl (lv_room (Nat.le_of_ble_eq_true rfl)) dX8_dismiss_67 ⟨Nat.le_refl _, Nat.le_refl _⟩) hP hD hS hA [0, 1] [2] rfl rfl (by decide) (by decide) (fun r67 u67 H locs hw67 hP hD hS => ?_)
        have hP : va_P dg vwCl [(mw, .inl (tq.1, 7225, .inl (recW was s st))), (m0, .inr (8, [.ref ms, .ref mw, .int (nI (recN st)), .ref mt, .int xt, .int xa, .ref su, .ref pt, .ref td, .ref wy])), (ms, .inl (tq.1, 1445, .inl (putE (upd s ((425 + (4 * bk_)) + 3) (nI 3)) (nI 4) (nI 0) (nI 0) (nI (lf s bk_)) (-100009))))] H := hP
        have hD : va_D AA [(mw, .inl (tq.1, 7225, .inl (recW was s st))), (m0, .inr (8, [.ref ms, .ref mw, .int (nI (recN st)), .ref mt, .int xt, .int xa, .ref su, .ref pt, .ref td, .ref wy])), (ms, .inl (tq.1, 1445, .inl (putE (upd s ((425 + (4 * bk_)) + 3) (nI 3)) (nI 4) (nI 0) (nI 0) (nI (lf s bk_)) (-100009))))] := hD
        subst hw67
        refine r_top (show (nI (nE (upd s ((425 + (4 * bk_)) + 3) (nI 3)))) = (nI (nE s)) from by rw [eN]) ?_
        exact hret (nI (nE s)) ((putE (upd s ((425 + (4 * bk_)) + 3) (nI 3)) (nI 4) (nI 0) (nI 0) (nI (lf s bk_)) (-100009)), (recW was s st), (recN st)) H locs _ ls (show (nI (nE s)) = (dsR s (nI bk_)) ∧ (MACT s was st (dsO s (nI bk_)) (dsS s (nI bk_)) (putE (upd s ((425 + (4 * bk_)) + 3) (nI 3)) (nI 4) (nI 0) (nI 0) (nI (lf s bk_)) (-100009)) (recW was s st) (recN st)) from (⟨by unfold dsR; rw [c5, if_pos rfl, cl_n (show bk_ < 2147483648 by omega), c16, if_pos rfl, if_neg (by omega)], MACT.yes (by unfold dsO; rw [c5, cl_n (show bk_ < 2147483648 by omega), c16, decide_eq_false (show ¬ nE s = 60 by omega)]; rfl) (by unfold dsS; rw [cl_n (show bk_ < 2147483648 by omega)])⟩)) rfl (hP.sub [1, 2, 0] rfl) (hD.sub [1, 2, 0] (by decide) rfl) hS dX8_dismiss_70
      · skip
        refine lv_ldc hx hb hown k72 dX8_dismiss_33 ?_
        exact hret (-100003) (s, was, st) H locs _ ls (show (-100003) = (dsR s (nI bk_)) ∧ (MACT s was st (dsO s (nI bk_)) (dsS s (nI bk_)) s was st) from (⟨by unfold dsR; rw [c5, if_pos rfl, cl_n (show bk_ < 2147483648 by omega), c16, if_pos rfl, if_pos (by omega)], MACT.no (by unfold dsO; rw [c5, cl_n (show bk_ < 2147483648 by omega), c16, decide_eq_true (show nE s = 60 by omega)]; rfl)⟩)) rfl (hP.sub [0, 1, 2] rfl) (hD.sub [0, 1, 2] (by decide) rfl) hS dX8_dismiss_35
    · skip
      refine lv_ldc hx hb hown k71 dX8_dismiss_19 ?_
      exact hret (-100002) (s, was, st) H locs _ ls (show (-100002) = (dsR s (nI bk_)) ∧ (MACT s was st (dsO s (nI bk_)) (dsS s (nI bk_)) s was st) from (⟨by unfold dsR; rw [c5, if_pos rfl, cl_n (show bk_ < 2147483648 by omega), c16]; rfl, MACT.no (by unfold dsO; rw [c5, cl_n (show bk_ < 2147483648 by omega), c16]; rfl)⟩)) rfl (hP.sub [0, 1, 2] rfl) (hD.sub [0, 1, 2] (by decide) rfl) hS dX8_dismiss_21
  · skip
    refine lv_ldc hx hb hown k84 dX8_dismiss_8 ?_
    exact hret (-100001) (s, was, st) H locs _ ls (show (-100001) = (dsR s x) ∧ (MACT s was st (dsO s x) (dsS s x) s was st) from (⟨by unfold dsR; rw [c5]; rfl, MACT.no (by unfold dsO; rw [c5]; rfl)⟩)) rfl (hP.sub [0, 1, 2] rfl) (hD.sub [0, 1, 2] (by decide) rfl) hS dX8_dismiss_10
theorem hdX8_seal : yX8_seal.cls = RX8 ∧ yX8_seal.cls ≠ "java/lang/invoke/MethodHandle" ∧ yX8_seal.cls ≠ "java/lang/invoke/VarHandle" ∧ (parseMethodDescriptor yX8_seal.desc).map (fun d => d.parameters.length) = some 0 := by decide +kernel
set_option maxHeartbeats 4000000 in
set_option maxRecDepth 100000 in
theorem kX8_seal (ln : Launch) (dg : va_G) (tq : ClassId × ClassId) (m0 ms mw mt su pt td wy : Nat) (xt xa : Int32) (st : Nat) (hst : st ≤ 5) (s was : Row) (hW : WF s) : MW ln yX8_seal wsX8_seal (rmm 1 22) dg tq [.ref m0] [(m0, .inr (8, [.ref ms, .ref mw, .int (nI st), .ref mt, .int xt, .int xa, .ref su, .ref pt, .ref td, .ref wy])), (ms, .inl (tq.1, 1445, .inl s)), (mw, .inl (tq.1, 7225, .inl was))] (fun (r : Int32) (u : Row × Row × Nat) => r = (slR s) ∧ (MACT s was st (slO s) (sealS s) u.1 u.2.1 u.2.2)) (fun u => [(m0, .inr (8, [.ref ms, .ref mw, .int (nI u.2.2), .ref mt, .int xt, .int xa, .ref su, .ref pt, .ref td, .ref wy])), (ms, .inl (tq.1, 1445, .inl u.1)), (mw, .inl (tq.1, 7225, .inl u.2.1))]) := by
  refine MW.enter cX8_seal 2 .int (by decide) rfl rfl (Nat.le_of_ble_eq_true rfl) ?_
  intro pP eE sS mM aA bB mT cC QQ AA hA hAT hret H locs hP hD hS ls hl
  obtain ⟨hx, hb, hml, hown, hts, hK, hN⟩ := hAT
  have hown : sS.vm.findClass RX8 = some mM.cls := hown
  have hl : lv_has ls 2 [(0, .ref m0)] := hl
  have in8 : ∀ w ∈ u_ws RX8 TX8 10, w ∈ wsX8_seal := (fun _ h9 => List.mem_cons_of_mem _ (List.mem_append_right _ h9))
  have f7 := hts (.fieldLink RX8 7 "OrphanChainModel" "s" "[I") (List.mem_of_getElem? (i := 1) rfl)
  have k72 := hts (.constant RX8 72 (-100003)) (List.mem_of_getElem? (i := 2) rfl)
  have hn60 := hW.n60
  have hb10 := hW.b10
  have hs8 := hW.s8
  have hhn := hW.hn
  refine lv_aload_n hx hb dX8_seal_0 rfl (lv_at hl 0 rfl) ?_
  refine va_get (D := dg) (ci := 8) (v := .ref ms) (C := RX8) (T := TX8) (N := 10) hx hb hts in8 hown hK hP 0 rfl rfl 0 (by decide) f7 (fun _ h9 => h9) rfl dX8_seal_1 ?_
  refine lv_iconst (v := (nI 4)) hx hb dX8_seal_4 (by decide) ?_
  refine r_iald_n hx hb hK hP 1 rfl (k := 4) (by omega) (by omega) dX8_seal_5 ?_
  refine r_top (show (s 4) = (nI (nS s)) from (hW.s)) ?_
  refine lv_bipush (v := (nI 8)) hx hb dX8_seal_6 (by decide) ?_
  refine r_icmp_ne (tgt := 14) hx hb (nI_tI (by omega)) (nI_tI (by omega)) dX8_seal_8 (by decide) (fun c8 => ?_) (fun c8 => ?_)
  · skip
    refine lv_aload_n hx hb dX8_seal_14 rfl (lv_at hl 0 rfl) ?_
    refine call_v (wr := []) (va_runV (As := []) (rest := []) ⟨hx, hb, hml, hown, hts⟩ (kX8_records ln dg tq (m0 := m0) (ms := ms) (mw := mw) (mt := mt) (su := su) (pt := pt) (td := td) (wy := wy) (xt := xt) (xa := xa) (st := st) (hst := (by omega)) (s := s) (was := was) H.size) (cwV 0 hts gX8_seal_X8_records rfl rfl rfl hdX8_records ⟨Nat.le_of_ble_eq_true rfl, Nat.le_of_ble_eq_true rfl⟩) (preVB hK hN hP hD [0, 1, 2] rfl rfl rfl 0 rfl rfl []) rfl rfl hl.1 rfl (lv_room (Nat.le_of_ble_eq_true rfl)) dX8_seal_15 ⟨Nat.le_refl _, Nat.le_refl _⟩) hP hD hS hA [0, 1, 2] [] rfl rfl (by decide) (by decide) (fun u15 H locs hw15 hP hD hS => ?_)
    have hP : va_P dg vwCl [(m0, .inr (8, [.ref ms, .ref mw, .int (nI (recN st)), .ref mt, .int xt, .int xa, .ref su, .ref pt, .ref td, .ref wy])), (ms, .inl (tq.1, 1445, .inl s)), (mw, .inl (tq.1, 7225, .inl (recW was s st)))] H := hP
    have hD : va_D AA [(m0, .inr (8, [.ref ms, .ref mw, .int (nI (recN st)), .ref mt, .int xt, .int xa, .ref su, .ref pt, .ref td, .ref wy])), (ms, .inl (tq.1, 1445, .inl s)), (mw, .inl (tq.1, 7225, .inl (recW was s st)))] := hD
    refine lv_sipush (v := (nI 465)) hx hb dX8_seal_18 (by decide) ?_
    refine lv_iconst (v := (nI 2)) hx hb dX8_seal_21 (by decide) ?_
    refine lv_aload_n hx hb dX8_seal_22 rfl (lv_at hl 0 rfl) ?_
    refine va_get (D := dg) (ci := 8) (v := .ref ms) (C := RX8) (T := TX8) (N := 10) hx hb hts in8 hown hK hP 0 rfl rfl 0 (by decide) f7 (fun _ h9 => h9) rfl dX8_seal_23 ?_
    refine lv_iconst (v := (nI 4)) hx hb dX8_seal_26 (by decide) ?_
    refine r_iald_n hx hb hK hP 1 rfl (k := 4) (by omega) (by omega) dX8_seal_27 ?_
    refine r_top (show (s 4) = (nI (nS s)) from (hW.s)) ?_
    refine r_imul_n hx hb dX8_seal_28 ?_
    refine r_iadd_n hx hb dX8_seal_29 ?_
    refine lv_istore_n (lv' := [(1, .int (nI (465 + (2 * (nS s))))), (0, .ref m0)]) hx hb dX8_seal_30 rfl hl (by decide) rfl (fun ls hl => ?_)
    refine lv_aload_n hx hb dX8_seal_31 rfl (lv_at hl 1 rfl) ?_
    refine va_get (D := dg) (ci := 8) (v := .ref ms) (C := RX8) (T := TX8) (N := 10) hx hb hts in8 hown hK hP 0 rfl rfl 0 (by decide) f7 (fun _ h9 => h9) rfl dX8_seal_32 ?_
    refine lv_iload_n hx hb dX8_seal_35 rfl (lv_at hl 0 rfl) ?_
    refine lv_aload_n hx hb dX8_seal_36 rfl (lv_at hl 1 rfl) ?_
    refine va_get (D := dg) (ci := 8) (v := .ref ms) (C := RX8) (T := TX8) (N := 10) hx hb hts in8 hown hK hP 0 rfl rfl 0 (by decide) f7 (fun _ h9 => h9) rfl dX8_seal_37 ?_
    refine lv_iconst (v := (nI 1)) hx hb dX8_seal_40 (by decide) ?_
    refine r_iald_n hx hb hK hP 1 rfl (k := 1) (by omega) (by omega) dX8_seal_41 ?_
    refine r_top (show (s 1) = (nI (hE s)) from (hW.h)) ?_
    refine r_iast_n hx hb hK hP hD hS 1 rfl (k := (465 + (2 * (nS s)))) (by omega) (by omega) dX8_seal_42 (fun H locs hP hD hS => ?_)
    have hP : va_P dg vwCl [(m0, .inr (8, [.ref ms, .ref mw, .int (nI (recN st)), .ref mt, .int xt, .int xa, .ref su, .ref pt, .ref td, .ref wy])), (ms, .inl (tq.1, 1445, .inl (upd s (465 + (2 * (nS s))) (nI (hE s))))), (mw, .inl (tq.1, 7225, .inl (recW was s st)))] H := hP
    have hD : va_D AA [(m0, .inr (8, [.ref ms, .ref mw, .int (nI (recN st)), .ref mt, .int xt, .int xa, .ref su, .ref pt, .ref td, .ref wy])), (ms, .inl (tq.1, 1445, .inl (upd s (465 + (2 * (nS s))) (nI (hE s))))), (mw, .inl (tq.1, 7225, .inl (recW was s st)))] := hD
    refine lv_aload_n hx hb dX8_seal_43 rfl (lv_at hl 1 rfl) ?_
    refine va_get (D := dg) (ci := 8) (v := .ref ms) (C := RX8) (T := TX8) (N := 10) hx hb hts in8 hown hK hP 0 rfl rfl 0 (by decide) f7 (fun _ h9 => h9) rfl dX8_seal_44 ?_
    refine lv_iload_n hx hb dX8_seal_47 rfl (lv_at hl 0 rfl) ?_
    refine lv_iconst (v := (nI 1)) hx hb dX8_seal_48 (by decide) ?_
    refine r_iadd_n hx hb dX8_seal_49 ?_
    refine lv_aload_n hx hb dX8_seal_50 rfl (lv_at hl 1 rfl) ?_
    refine lv_aload_n hx hb dX8_seal_51 rfl (lv_at hl 1 rfl) ?_
    refine va_get (D := dg) (ci := 8) (v := .ref ms) (C := RX8) (T := TX8) (N := 10) hx hb hts in8 hown hK hP 0 rfl rfl 0 (by decide) f7 (fun _ h9 => h9) rfl dX8_seal_52 ?_
    refine lv_iconst (v := (nI 1)) hx hb dX8_seal_55 (by decide) ?_
    refine r_iald_n hx hb hK hP 1 rfl (k := 1) (by omega) (by omega) dX8_seal_56 ?_
    refine r_top (show ((upd s (465 + (2 * (nS s))) (nI (hE s))) 1) = (nI (hE s)) from by (repeat rw [pk_un (by omega)]); exact hW.h) ?_
    refine lv_iconst (v := (nI 5)) hx hb dX8_seal_57 (by decide) ?_
    refine call_x (va_runV (As := [.int (nI (hE s)), .int (nI 5)]) (rest := [.int (nI ((465 + (2 * (nS s))) + 1)), .ref ms]) ⟨hx, hb, hml, hown, hts⟩ (kX8_en ln dg tq (m0 := m0) (ms := ms) (mw := mw) (mt := mt) (su := su) (pt := pt) (td := td) (wy := wy) (xs := (nI (recN st))) (xt := xt) (xa := xa) (s := upd s (465 + (2 * (nS s))) (nI (hE s))) (e := hE s) (f := 5) (he := (by omega)) (hf := (by omega)) H.size) (cwV 2 hts gX8_seal_X8_en rfl rfl rfl hdX8_en ⟨Nat.le_of_ble_eq_true rfl, Nat.le_of_ble_eq_true rfl⟩) (preVR hK hN hP [0, 1] rfl 0 rfl rfl [.int (nI (hE s)), .int (nI 5)]) rfl rfl hl.1 rfl (lv_room (Nat.le_of_ble_eq_true rfl)) dX8_seal_58 ⟨Nat.le_refl _, Nat.le_refl _⟩) hP hS hA (fun H locs hP hS => ?_)
    refine r_top (show ((upd s (465 + (2 * (nS s))) (nI (hE s))) (5 + 7 * (hE s) + 5)) = (me s (hE s) 5) from by (repeat rw [pk_un (by omega)])) ?_
    refine r_iast_n hx hb hK hP hD hS 1 rfl (k := ((465 + (2 * (nS s))) + 1)) (by omega) (by omega) dX8_seal_61 (fun H locs hP hD hS => ?_)
    have hP : va_P dg vwCl [(m0, .inr (8, [.ref ms, .ref mw, .int (nI (recN st)), .ref mt, .int xt, .int xa, .ref su, .ref pt, .ref td, .ref wy])), (ms, .inl (tq.1, 1445, .inl (upd (upd s (465 + (2 * (nS s))) (nI (hE s))) ((465 + (2 * (nS s))) + 1) (me s (hE s) 5)))), (mw, .inl (tq.1, 7225, .inl (recW was s st)))] H := hP
    have hD : va_D AA [(m0, .inr (8, [.ref ms, .ref mw, .int (nI (recN st)), .ref mt, .int xt, .int xa, .ref su, .ref pt, .ref td, .ref wy])), (ms, .inl (tq.1, 1445, .inl (upd (upd s (465 + (2 * (nS s))) (nI (hE s))) ((465 + (2 * (nS s))) + 1) (me s (hE s) 5)))), (mw, .inl (tq.1, 7225, .inl (recW was s st)))] := hD
    refine lv_aload_n hx hb dX8_seal_62 rfl (lv_at hl 1 rfl) ?_
    refine va_get (D := dg) (ci := 8) (v := .ref ms) (C := RX8) (T := TX8) (N := 10) hx hb hts in8 hown hK hP 0 rfl rfl 0 (by decide) f7 (fun _ h9 => h9) rfl dX8_seal_63 ?_
    refine lv_iconst (v := (nI 4)) hx hb dX8_seal_66 (by decide) ?_
    refine lv_dup2_11 hx hb dX8_seal_67 rfl rfl ?_
    refine r_iald_n hx hb hK hP 1 rfl (k := 4) (by omega) (by omega) dX8_seal_68 ?_
    refine r_top (show ((upd (upd s (465 + (2 * (nS s))) (nI (hE s))) ((465 + (2 * (nS s))) + 1) (me s (hE s) 5)) 4) = (nI (nS s)) from by (repeat rw [pk_un (by omega)]); exact hW.s) ?_
    refine lv_iconst (v := (nI 1)) hx hb dX8_seal_69 (by decide) ?_
    refine r_iadd_n hx hb dX8_seal_70 ?_
    refine r_iast_n hx hb hK hP hD hS 1 rfl (k := 4) (by omega) (by omega) dX8_seal_71 (fun H locs hP hD hS => ?_)
    have hP : va_P dg vwCl [(m0, .inr (8, [.ref ms, .ref mw, .int (nI (recN st)), .ref mt, .int xt, .int xa, .ref su, .ref pt, .ref td, .ref wy])), (ms, .inl (tq.1, 1445, .inl (upd (upd (upd s (465 + (2 * (nS s))) (nI (hE s))) ((465 + (2 * (nS s))) + 1) (me s (hE s) 5)) 4 (nI ((nS s) + 1))))), (mw, .inl (tq.1, 7225, .inl (recW was s st)))] H := hP
    have hD : va_D AA [(m0, .inr (8, [.ref ms, .ref mw, .int (nI (recN st)), .ref mt, .int xt, .int xa, .ref su, .ref pt, .ref td, .ref wy])), (ms, .inl (tq.1, 1445, .inl (upd (upd (upd s (465 + (2 * (nS s))) (nI (hE s))) ((465 + (2 * (nS s))) + 1) (me s (hE s) 5)) 4 (nI ((nS s) + 1))))), (mw, .inl (tq.1, 7225, .inl (recW was s st)))] := hD
    refine lv_aload_n hx hb dX8_seal_72 rfl (lv_at hl 1 rfl) ?_
    refine va_get (D := dg) (ci := 8) (v := .ref ms) (C := RX8) (T := TX8) (N := 10) hx hb hts in8 hown hK hP 0 rfl rfl 0 (by decide) f7 (fun _ h9 => h9) rfl dX8_seal_73 ?_
    refine lv_iconst (v := (nI 4)) hx hb dX8_seal_76 (by decide) ?_
    refine r_iald_n hx hb hK hP 1 rfl (k := 4) (by omega) (by omega) dX8_seal_77 ?_
    refine r_top (show ((upd (upd (upd s (465 + (2 * (nS s))) (nI (hE s))) ((465 + (2 * (nS s))) + 1) (me s (hE s) 5)) 4 (nI ((nS s) + 1))) 4) = (nI (nS s + 1)) from by rw [pk_us]) ?_
    refine lv_iconst (v := (nI 1)) hx hb dX8_seal_78 (by decide) ?_
    refine r_isub_n hx hb (by omega) dX8_seal_79 ?_
    exact hret (nI ((nS s + 1) - 1)) ((upd (upd (upd s (465 + (2 * (nS s))) (nI (hE s))) ((465 + (2 * (nS s))) + 1) (me s (hE s) 5)) 4 (nI ((nS s) + 1))), (recW was s st), (recN st)) H locs _ ls (show (nI ((nS s + 1) - 1)) = (slR s) ∧ (MACT s was st (slO s) (sealS s) (upd (upd (upd s (465 + (2 * (nS s))) (nI (hE s))) ((465 + (2 * (nS s))) + 1) (me s (hE s) 5)) 4 (nI ((nS s) + 1))) (recW was s st) (recN st)) from (⟨by unfold slR; rw [if_neg (by omega)]; exact congrArg nI (by omega), MACT.yes (by unfold slO; rw [decide_eq_false (show ¬ nS s = 8 by omega)]; rfl) rfl⟩)) rfl (hP.sub [0, 1, 2] rfl) (hD.sub [0, 1, 2] (by decide) rfl) hS dX8_seal_80
  · skip
    refine lv_ldc hx hb hown k72 dX8_seal_11 ?_
    exact hret (-100003) (s, was, st) H locs _ ls (show (-100003) = (slR s) ∧ (MACT s was st (slO s) (sealS s) s was st) from (⟨by unfold slR; rw [if_pos (by omega)], MACT.no (by unfold slO; rw [decide_eq_true (show nS s = 8 by omega)]; rfl)⟩)) rfl (hP.sub [0, 1, 2] rfl) (hD.sub [0, 1, 2] (by decide) rfl) hS dX8_seal_13
theorem hdX8_take : yX8_take.cls = RX8 ∧ yX8_take.cls ≠ "java/lang/invoke/MethodHandle" ∧ yX8_take.cls ≠ "java/lang/invoke/VarHandle" ∧ (parseMethodDescriptor yX8_take.desc).map (fun d => d.parameters.length) = some 1 := by decide +kernel
set_option maxHeartbeats 4000000 in
set_option maxRecDepth 100000 in
theorem kX8_take (ln : Launch) (dg : va_G) (tq : ClassId × ClassId) (m0 ms mw mt su pt td wy : Nat) (xt xa : Int32) (st : Nat) (hst : st ≤ 5) (s was : Row) (hW : WF s) (x : Int32) : MW ln yX8_take wsX8_take (rmm 1 22) dg tq [.ref m0, .int x] [(m0, .inr (8, [.ref ms, .ref mw, .int (nI st), .ref mt, .int xt, .int xa, .ref su, .ref pt, .ref td, .ref wy])), (ms, .inl (tq.1, 1445, .inl s)), (mw, .inl (tq.1, 7225, .inl was))] (fun (r : Int32) (u : Row × Row × Nat) => r = (tkR s x) ∧ (MACT s was st (tkO x) (tkS s x) u.1 u.2.1 u.2.2)) (fun u => [(m0, .inr (8, [.ref ms, .ref mw, .int (nI u.2.2), .ref mt, .int xt, .int xa, .ref su, .ref pt, .ref td, .ref wy])), (ms, .inl (tq.1, 1445, .inl u.1)), (mw, .inl (tq.1, 7225, .inl u.2.1))]) := by
  refine MW.enter cX8_take 3 .int (by decide) rfl rfl (Nat.le_of_ble_eq_true rfl) ?_
  intro pP eE sS mM aA bB mT cC QQ AA hA hAT hret H locs hP hD hS ls hl
  obtain ⟨hx, hb, hml, hown, hts, hK, hN⟩ := hAT
  have hown : sS.vm.findClass RX8 = some mM.cls := hown
  have hl : lv_has ls 3 [(0, .ref m0), (1, .int x)] := hl
  have in8 : ∀ w ∈ u_ws RX8 TX8 10, w ∈ wsX8_take := (fun _ h9 => List.mem_cons_of_mem _ (List.mem_append_right _ h9))
  have f7 := hts (.fieldLink RX8 7 "OrphanChainModel" "s" "[I") (List.mem_of_getElem? (i := 2) rfl)
  have k84 := hts (.constant RX8 84 (-100001)) (List.mem_of_getElem? (i := 1) rfl)
  have hn60 := hW.n60
  have hb10 := hW.b10
  have hs8 := hW.s8
  have hhn := hW.hn
  refine lv_iload_n hx hb dX8_take_0 rfl (lv_at hl 1 rfl) ?_
  refine lv_iconst (v := (nI 0)) hx hb dX8_take_1 (by decide) ?_
  refine lv_iconst (v := (nI 1)) hx hb dX8_take_2 (by decide) ?_
  refine call_x (va_runS (As := [.int x, .int (nI 0), .int (nI 1)]) (rest := []) ⟨hx, hb, hml, hown, hts⟩ (kX8_in ln dg tq (v := x) (lo := (nI 0)) (hi := (nI 1)) H.size) (va_cwS 3 hts gX8_take_X8_in rfl rfl rfl hdX8_in.2 ⟨Nat.le_of_ble_eq_true rfl, Nat.le_of_ble_eq_true rfl⟩) (preS0 hK hN [.int x, .int (nI 0), .int (nI 1)]) rfl rfl hl.1 rfl (lv_room (Nat.le_of_ble_eq_true rfl)) dX8_take_3 ⟨Nat.le_refl _, Nat.le_refl _⟩) hP hS hA (fun H locs hP hS => ?_)
  refine r_if_ne_b (tgt := 12) hx hb dX8_take_6 (by decide) (fun c6 => ?_) (fun c6 => ?_)
  · skip
    obtain ⟨jk_, hj1, hj2, rfl⟩ := inR_t (by omega) (by omega) c6
    refine lv_aload_n hx hb dX8_take_12 rfl (lv_at hl 0 rfl) ?_
    refine call_v (wr := []) (va_runV (As := []) (rest := []) ⟨hx, hb, hml, hown, hts⟩ (kX8_records ln dg tq (m0 := m0) (ms := ms) (mw := mw) (mt := mt) (su := su) (pt := pt) (td := td) (wy := wy) (xt := xt) (xa := xa) (st := st) (hst := (by omega)) (s := s) (was := was) H.size) (cwV 0 hts gX8_take_X8_records rfl rfl rfl hdX8_records ⟨Nat.le_of_ble_eq_true rfl, Nat.le_of_ble_eq_true rfl⟩) (preVB hK hN hP hD [0, 1, 2] rfl rfl rfl 0 rfl rfl []) rfl rfl hl.1 rfl (lv_room (Nat.le_of_ble_eq_true rfl)) dX8_take_13 ⟨Nat.le_refl _, Nat.le_refl _⟩) hP hD hS hA [0, 1, 2] [] rfl rfl (by decide) (by decide) (fun u13 H locs hw13 hP hD hS => ?_)
    have hP : va_P dg vwCl [(m0, .inr (8, [.ref ms, .ref mw, .int (nI (recN st)), .ref mt, .int xt, .int xa, .ref su, .ref pt, .ref td, .ref wy])), (ms, .inl (tq.1, 1445, .inl s)), (mw, .inl (tq.1, 7225, .inl (recW was s st)))] H := hP
    have hD : va_D AA [(m0, .inr (8, [.ref ms, .ref mw, .int (nI (recN st)), .ref mt, .int xt, .int xa, .ref su, .ref pt, .ref td, .ref wy])), (ms, .inl (tq.1, 1445, .inl s)), (mw, .inl (tq.1, 7225, .inl (recW was s st)))] := hD
    refine lv_iconst (v := (nI 0)) hx hb dX8_take_16 (by decide) ?_
    refine lv_istore_n (lv' := [(2, .int (nI 0)), (0, .ref m0), (1, .int (nI jk_))]) hx hb dX8_take_17 rfl hl (by decide) rfl (fun ls hl => ?_)
    have loop18 : ∀ (fu : Nat) (k_ : Nat) (x_ : Row) (H : Heap) (locs : List Loc) (ls : Array Slot), (k_ ≤ 481 ∧ x_ = va_cpy s s 0 (481 + 481 * jk_) k_) → 481 - k_ < fu → va_P dg vwCl [(m0, .inr (8, [.ref ms, .ref mw, .int (nI (recN st)), .ref mt, .int xt, .int xa, .ref su, .ref pt, .ref td, .ref wy])), (ms, .inl (tq.1, 1445, .inl x_)), (mw, .inl (tq.1, 7225, .inl (recW was s st)))] H → va_D AA [(m0, .inr (8, [.ref ms, .ref mw, .int (nI (recN st)), .ref mt, .int xt, .int xa, .ref su, .ref pt, .ref td, .ref wy])), (ms, .inl (tq.1, 1445, .inl x_)), (mw, .inl (tq.1, 7225, .inl (recW was s st)))] → va_S AA sS.heap H locs → lv_has ls 3 [(0, .ref m0), (1, .int (nI jk_)), (2, .int (nI k_))] → W pP ln eE (rmm 1 22) sS mM aA bB mT cC H locs 0 0 QQ (F0 mM 18 ls []) := by
      intro fu
      induction fu with
      | zero => intro k_ x_ H locs ls _ hm; exact absurd hm (Nat.not_lt_zero _)
      | succ fu ih18 =>
        intro k_ x_ H locs ls hinv hm hP hD hS hl
        obtain ⟨hi1, hi2⟩ := hinv
        refine lv_iload_n hx hb dX8_take_18 rfl (lv_at hl 2 rfl) ?_
        refine lv_sipush (v := (nI 481)) hx hb dX8_take_19 (by decide) ?_
        refine r_icmp_ge (tgt := 53) hx hb (nI_tI (by omega)) (nI_tI (by omega)) dX8_take_22 (by decide) (fun c22 => ?_) (fun c22 => ?_)
        · skip
          have ew : x_ = (va_cpy s s 0 (481 + 481 * jk_) 481) := by rw [hi2, show k_ = 481 by omega]
          have hP : va_P dg vwCl [(m0, .inr (8, [.ref ms, .ref mw, .int (nI (recN st)), .ref mt, .int xt, .int xa, .ref su, .ref pt, .ref td, .ref wy])), (ms, .inl (tq.1, 1445, .inl (va_cpy s s 0 (481 + 481 * jk_) 481))), (mw, .inl (tq.1, 7225, .inl (recW was s st)))] H := by rw [← ew]; exact hP
          have hD : va_D AA [(m0, .inr (8, [.ref ms, .ref mw, .int (nI (recN st)), .ref mt, .int xt, .int xa, .ref su, .ref pt, .ref td, .ref wy])), (ms, .inl (tq.1, 1445, .inl (va_cpy s s 0 (481 + 481 * jk_) 481))), (mw, .inl (tq.1, 7225, .inl (recW was s st)))] := by rw [← ew]; exact hD
          refine lv_aload_n hx hb dX8_take_53 rfl (lv_at hl 0 rfl) ?_
          refine va_get (D := dg) (ci := 8) (v := .ref ms) (C := RX8) (T := TX8) (N := 10) hx hb hts in8 hown hK hP 0 rfl rfl 0 (by decide) f7 (fun _ h9 => h9) rfl dX8_take_54 ?_
          refine lv_sipush (v := (nI 1443)) hx hb dX8_take_57 (by decide) ?_
          refine lv_iload_n hx hb dX8_take_60 rfl (lv_at hl 1 rfl) ?_
          refine r_iadd_n hx hb dX8_take_61 ?_
          refine lv_iconst (v := (nI 1)) hx hb dX8_take_62 (by decide) ?_
          refine r_iast_n hx hb hK hP hD hS 1 rfl (k := (1443 + jk_)) (by omega) (by omega) dX8_take_63 (fun H locs hP hD hS => ?_)
          have hP : va_P dg vwCl [(m0, .inr (8, [.ref ms, .ref mw, .int (nI (recN st)), .ref mt, .int xt, .int xa, .ref su, .ref pt, .ref td, .ref wy])), (ms, .inl (tq.1, 1445, .inl (upd (va_cpy s s 0 (481 + 481 * jk_) 481) (1443 + jk_) (nI 1)))), (mw, .inl (tq.1, 7225, .inl (recW was s st)))] H := hP
          have hD : va_D AA [(m0, .inr (8, [.ref ms, .ref mw, .int (nI (recN st)), .ref mt, .int xt, .int xa, .ref su, .ref pt, .ref td, .ref wy])), (ms, .inl (tq.1, 1445, .inl (upd (va_cpy s s 0 (481 + 481 * jk_) 481) (1443 + jk_) (nI 1)))), (mw, .inl (tq.1, 7225, .inl (recW was s st)))] := hD
          refine lv_aload_n hx hb dX8_take_64 rfl (lv_at hl 0 rfl) ?_
          refine va_get (D := dg) (ci := 8) (v := .ref ms) (C := RX8) (T := TX8) (N := 10) hx hb hts in8 hown hK hP 0 rfl rfl 0 (by decide) f7 (fun _ h9 => h9) rfl dX8_take_65 ?_
          refine lv_iconst (v := (nI 0)) hx hb dX8_take_68 (by decide) ?_
          refine r_iald_n hx hb hK hP 1 rfl (k := 0) (by omega) (by omega) dX8_take_69 ?_
          refine r_top (show ((upd (va_cpy s s 0 (481 + 481 * jk_) 481) (1443 + jk_) (nI 1)) 0) = (nI (nE s)) from by rw [pk_un (by omega), pk_cpy_out (by omega)]; exact hW.n) ?_
          exact hret (nI (nE s)) ((upd (va_cpy s s 0 (481 + 481 * jk_) 481) (1443 + jk_) (nI 1)), (recW was s st), (recN st)) H locs _ ls (show (nI (nE s)) = (tkR s (nI jk_)) ∧ (MACT s was st (tkO (nI jk_)) (tkS s (nI jk_)) (upd (va_cpy s s 0 (481 + 481 * jk_) 481) (1443 + jk_) (nI 1)) (recW was s st) (recN st)) from (⟨by unfold tkR; rw [c6]; rfl, MACT.yes c6 (by unfold tkS; rw [cl_n (show jk_ < 2147483648 by omega)])⟩)) rfl (hP.sub [0, 1, 2] rfl) (hD.sub [0, 1, 2] (by decide) rfl) hS dX8_take_70
        · skip
          refine lv_aload_n hx hb dX8_take_25 rfl (lv_at hl 0 rfl) ?_
          refine va_get (D := dg) (ci := 8) (v := .ref ms) (C := RX8) (T := TX8) (N := 10) hx hb hts in8 hown hK hP 0 rfl rfl 0 (by decide) f7 (fun _ h9 => h9) rfl dX8_take_26 ?_
          refine lv_sipush (v := (nI 481)) hx hb dX8_take_29 (by decide) ?_
          refine lv_sipush (v := (nI 481)) hx hb dX8_take_32 (by decide) ?_
          refine lv_iload_n hx hb dX8_take_35 rfl (lv_at hl 1 rfl) ?_
          refine r_imul_n hx hb dX8_take_36 ?_
          refine r_iadd_n hx hb dX8_take_37 ?_
          refine lv_iload_n hx hb dX8_take_38 rfl (lv_at hl 2 rfl) ?_
          refine r_iadd_n hx hb dX8_take_39 ?_
          refine lv_aload_n hx hb dX8_take_40 rfl (lv_at hl 0 rfl) ?_
          refine va_get (D := dg) (ci := 8) (v := .ref ms) (C := RX8) (T := TX8) (N := 10) hx hb hts in8 hown hK hP 0 rfl rfl 0 (by decide) f7 (fun _ h9 => h9) rfl dX8_take_41 ?_
          refine lv_iload_n hx hb dX8_take_44 rfl (lv_at hl 2 rfl) ?_
          refine r_iald_n hx hb hK hP 1 rfl (k := k_) (by omega) (by omega) dX8_take_45 ?_
          refine r_top (show (x_ k_) = (s k_) from by rw [hi2, pk_cpy_out (by omega)]) ?_
          refine r_iast_n hx hb hK hP hD hS 1 rfl (k := ((481 + (481 * jk_)) + k_)) (by omega) (by omega) dX8_take_46 (fun H locs hP hD hS => ?_)
          have hP : va_P dg vwCl [(m0, .inr (8, [.ref ms, .ref mw, .int (nI (recN st)), .ref mt, .int xt, .int xa, .ref su, .ref pt, .ref td, .ref wy])), (ms, .inl (tq.1, 1445, .inl (upd x_ ((481 + (481 * jk_)) + k_) (s k_)))), (mw, .inl (tq.1, 7225, .inl (recW was s st)))] H := hP
          have hD : va_D AA [(m0, .inr (8, [.ref ms, .ref mw, .int (nI (recN st)), .ref mt, .int xt, .int xa, .ref su, .ref pt, .ref td, .ref wy])), (ms, .inl (tq.1, 1445, .inl (upd x_ ((481 + (481 * jk_)) + k_) (s k_)))), (mw, .inl (tq.1, 7225, .inl (recW was s st)))] := hD
          refine lv_iinc (v := (nI (k_ + 1))) (lv' := [(2, .int (nI (k_ + 1))), (0, .ref m0), (1, .int (nI jk_))]) hx hb dX8_take_47 hl (k := 2) rfl (nI_add _ _) (by decide) rfl (fun ls hl => ?_)
          refine lv_goto (tgt := 18) hx hb dX8_take_50 (by decide) ?_
          exact ih18 (k_ + 1) (upd x_ ((481 + (481 * jk_)) + k_) (s k_)) H locs ls (⟨by omega, by rw [hi2]; exact cpy_sz s s (481 + 481 * jk_) k_⟩) (by omega) (hP.sub [0, 1, 2] rfl) (hD.sub [0, 1, 2] (by decide) rfl) hS (lv_sub hl [1, 2, 0] rfl)
    exact loop18 _ 0 s H locs ls (⟨by omega, (cpy_0 s s _ _).symm⟩) (Nat.lt_succ_self _) (hP.sub [0, 1, 2] rfl) (hD.sub [0, 1, 2] (by decide) rfl) hS (lv_sub hl [1, 2, 0] rfl)
  · skip
    refine lv_ldc hx hb hown k84 dX8_take_9 ?_
    exact hret (-100001) (s, was, st) H locs _ ls (show (-100001) = (tkR s x) ∧ (MACT s was st (tkO x) (tkS s x) s was st) from (⟨by unfold tkR; rw [c6]; rfl, MACT.no c6⟩)) rfl (hP.sub [0, 1, 2] rfl) (hD.sub [0, 1, 2] (by decide) rfl) hS dX8_take_11
theorem hdX8_restore : yX8_restore.cls = RX8 ∧ yX8_restore.cls ≠ "java/lang/invoke/MethodHandle" ∧ yX8_restore.cls ≠ "java/lang/invoke/VarHandle" ∧ (parseMethodDescriptor yX8_restore.desc).map (fun d => d.parameters.length) = some 1 := by decide +kernel
set_option maxHeartbeats 4000000 in
set_option maxRecDepth 100000 in
theorem kX8_restore (ln : Launch) (dg : va_G) (tq : ClassId × ClassId) (m0 ms mw mt su pt td wy : Nat) (xt xa : Int32) (st : Nat) (hst : st ≤ 5) (s was : Row) (hW : WF s) (x : Int32) : MW ln yX8_restore wsX8_restore (rmm 1 22) dg tq [.ref m0, .int x] [(m0, .inr (8, [.ref ms, .ref mw, .int (nI st), .ref mt, .int xt, .int xa, .ref su, .ref pt, .ref td, .ref wy])), (ms, .inl (tq.1, 1445, .inl s)), (mw, .inl (tq.1, 7225, .inl was))] (fun (r : Int32) (u : Row × Row × Nat) => r = (rsR s x) ∧ (MACT s was st (rsO s x) (rsS s x) u.1 u.2.1 u.2.2)) (fun u => [(m0, .inr (8, [.ref ms, .ref mw, .int (nI u.2.2), .ref mt, .int xt, .int xa, .ref su, .ref pt, .ref td, .ref wy])), (ms, .inl (tq.1, 1445, .inl u.1)), (mw, .inl (tq.1, 7225, .inl u.2.1))]) := by
  refine MW.enter cX8_restore 3 .int (by decide) rfl rfl (Nat.le_of_ble_eq_true rfl) ?_
  intro pP eE sS mM aA bB mT cC QQ AA hA hAT hret H locs hP hD hS ls hl
  obtain ⟨hx, hb, hml, hown, hts, hK, hN⟩ := hAT
  have hown : sS.vm.findClass RX8 = some mM.cls := hown
  have hl : lv_has ls 3 [(0, .ref m0), (1, .int x)] := hl
  have in8 : ∀ w ∈ u_ws RX8 TX8 10, w ∈ wsX8_restore := (fun _ h9 => List.mem_cons_of_mem _ (List.mem_append_right _ h9))
  have f7 := hts (.fieldLink RX8 7 "OrphanChainModel" "s" "[I") (List.mem_of_getElem? (i := 2) rfl)
  have k71 := hts (.constant RX8 71 (-100002)) (List.mem_of_getElem? (i := 3) rfl)
  have k84 := hts (.constant RX8 84 (-100001)) (List.mem_of_getElem? (i := 1) rfl)
  have hn60 := hW.n60
  have hb10 := hW.b10
  have hs8 := hW.s8
  have hhn := hW.hn
  refine lv_iload_n hx hb dX8_restore_0 rfl (lv_at hl 1 rfl) ?_
  refine lv_iconst (v := (nI 0)) hx hb dX8_restore_1 (by decide) ?_
  refine lv_iconst (v := (nI 1)) hx hb dX8_restore_2 (by decide) ?_
  refine call_x (va_runS (As := [.int x, .int (nI 0), .int (nI 1)]) (rest := []) ⟨hx, hb, hml, hown, hts⟩ (kX8_in ln dg tq (v := x) (lo := (nI 0)) (hi := (nI 1)) H.size) (va_cwS 3 hts gX8_restore_X8_in rfl rfl rfl hdX8_in.2 ⟨Nat.le_of_ble_eq_true rfl, Nat.le_of_ble_eq_true rfl⟩) (preS0 hK hN [.int x, .int (nI 0), .int (nI 1)]) rfl rfl hl.1 rfl (lv_room (Nat.le_of_ble_eq_true rfl)) dX8_restore_3 ⟨Nat.le_refl _, Nat.le_refl _⟩) hP hS hA (fun H locs hP hS => ?_)
  refine r_if_ne_b (tgt := 12) hx hb dX8_restore_6 (by decide) (fun c6 => ?_) (fun c6 => ?_)
  · skip
    obtain ⟨jk_, hj1, hj2, rfl⟩ := inR_t (by omega) (by omega) c6
    refine lv_aload_n hx hb dX8_restore_12 rfl (lv_at hl 0 rfl) ?_
    refine va_get (D := dg) (ci := 8) (v := .ref ms) (C := RX8) (T := TX8) (N := 10) hx hb hts in8 hown hK hP 0 rfl rfl 0 (by decide) f7 (fun _ h9 => h9) rfl dX8_restore_13 ?_
    refine lv_sipush (v := (nI 1443)) hx hb dX8_restore_16 (by decide) ?_
    refine lv_iload_n hx hb dX8_restore_19 rfl (lv_at hl 1 rfl) ?_
    refine r_iadd_n hx hb dX8_restore_20 ?_
    refine r_iald_n hx hb hK hP 1 rfl (k := (1443 + jk_)) (by omega) (by omega) dX8_restore_21 ?_
    refine r_if_ne (tgt := 28) hx hb rfl dX8_restore_22 (by decide) (fun c22 => ?_) (fun c22 => ?_)
    · skip
      have c22 : emptyB s jk_ = false := decide_eq_false (fun z => c22 (by rw [z]; rfl))
      refine lv_aload_n hx hb dX8_restore_28 rfl (lv_at hl 0 rfl) ?_
      refine call_v (wr := []) (va_runV (As := []) (rest := []) ⟨hx, hb, hml, hown, hts⟩ (kX8_records ln dg tq (m0 := m0) (ms := ms) (mw := mw) (mt := mt) (su := su) (pt := pt) (td := td) (wy := wy) (xt := xt) (xa := xa) (st := st) (hst := (by omega)) (s := s) (was := was) H.size) (cwV 0 hts gX8_restore_X8_records rfl rfl rfl hdX8_records ⟨Nat.le_of_ble_eq_true rfl, Nat.le_of_ble_eq_true rfl⟩) (preVB hK hN hP hD [0, 1, 2] rfl rfl rfl 0 rfl rfl []) rfl rfl hl.1 rfl (lv_room (Nat.le_of_ble_eq_true rfl)) dX8_restore_29 ⟨Nat.le_refl _, Nat.le_refl _⟩) hP hD hS hA [0, 1, 2] [] rfl rfl (by decide) (by decide) (fun u29 H locs hw29 hP hD hS => ?_)
      have hP : va_P dg vwCl [(m0, .inr (8, [.ref ms, .ref mw, .int (nI (recN st)), .ref mt, .int xt, .int xa, .ref su, .ref pt, .ref td, .ref wy])), (ms, .inl (tq.1, 1445, .inl s)), (mw, .inl (tq.1, 7225, .inl (recW was s st)))] H := hP
      have hD : va_D AA [(m0, .inr (8, [.ref ms, .ref mw, .int (nI (recN st)), .ref mt, .int xt, .int xa, .ref su, .ref pt, .ref td, .ref wy])), (ms, .inl (tq.1, 1445, .inl s)), (mw, .inl (tq.1, 7225, .inl (recW was s st)))] := hD
      refine lv_iconst (v := (nI 0)) hx hb dX8_restore_32 (by decide) ?_
      refine lv_istore_n (lv' := [(2, .int (nI 0)), (0, .ref m0), (1, .int (nI jk_))]) hx hb dX8_restore_33 rfl hl (by decide) rfl (fun ls hl => ?_)
      have loop34 : ∀ (fu : Nat) (k_ : Nat) (x_ : Row) (H : Heap) (locs : List Loc) (ls : Array Slot), (k_ ≤ 481 ∧ x_ = va_cpy s s (481 + 481 * jk_) 0 k_) → 481 - k_ < fu → va_P dg vwCl [(m0, .inr (8, [.ref ms, .ref mw, .int (nI (recN st)), .ref mt, .int xt, .int xa, .ref su, .ref pt, .ref td, .ref wy])), (ms, .inl (tq.1, 1445, .inl x_)), (mw, .inl (tq.1, 7225, .inl (recW was s st)))] H → va_D AA [(m0, .inr (8, [.ref ms, .ref mw, .int (nI (recN st)), .ref mt, .int xt, .int xa, .ref su, .ref pt, .ref td, .ref wy])), (ms, .inl (tq.1, 1445, .inl x_)), (mw, .inl (tq.1, 7225, .inl (recW was s st)))] → va_S AA sS.heap H locs → lv_has ls 3 [(0, .ref m0), (1, .int (nI jk_)), (2, .int (nI k_))] → W pP ln eE (rmm 1 22) sS mM aA bB mT cC H locs 0 0 QQ (F0 mM 34 ls []) := by
        intro fu
        induction fu with
        | zero => intro k_ x_ H locs ls _ hm; exact absurd hm (Nat.not_lt_zero _)
        | succ fu ih34 =>
          intro k_ x_ H locs ls hinv hm hP hD hS hl
          obtain ⟨hi1, hi2⟩ := hinv
          refine lv_iload_n hx hb dX8_restore_34 rfl (lv_at hl 2 rfl) ?_
          refine lv_sipush (v := (nI 481)) hx hb dX8_restore_35 (by decide) ?_
          refine r_icmp_ge (tgt := 69) hx hb (nI_tI (by omega)) (nI_tI (by omega)) dX8_restore_38 (by decide) (fun c38 => ?_) (fun c38 => ?_)
          · skip
            have ew : x_ = (va_cpy s s (481 + 481 * jk_) 0 481) := by rw [hi2, show k_ = 481 by omega]
            have hP : va_P dg vwCl [(m0, .inr (8, [.ref ms, .ref mw, .int (nI (recN st)), .ref mt, .int xt, .int xa, .ref su, .ref pt, .ref td, .ref wy])), (ms, .inl (tq.1, 1445, .inl (va_cpy s s (481 + 481 * jk_) 0 481))), (mw, .inl (tq.1, 7225, .inl (recW was s st)))] H := by rw [← ew]; exact hP
            have hD : va_D AA [(m0, .inr (8, [.ref ms, .ref mw, .int (nI (recN st)), .ref mt, .int xt, .int xa, .ref su, .ref pt, .ref td, .ref wy])), (ms, .inl (tq.1, 1445, .inl (va_cpy s s (481 + 481 * jk_) 0 481))), (mw, .inl (tq.1, 7225, .inl (recW was s st)))] := by rw [← ew]; exact hD
            refine lv_aload_n hx hb dX8_restore_69 rfl (lv_at hl 0 rfl) ?_
            refine va_get (D := dg) (ci := 8) (v := .ref ms) (C := RX8) (T := TX8) (N := 10) hx hb hts in8 hown hK hP 0 rfl rfl 0 (by decide) f7 (fun _ h9 => h9) rfl dX8_restore_70 ?_
            refine lv_iconst (v := (nI 0)) hx hb dX8_restore_73 (by decide) ?_
            refine r_iald_n hx hb hK hP 1 rfl (k := 0) (by omega) (by omega) dX8_restore_74 ?_
            refine r_top (show ((va_cpy s s (481 + 481 * jk_) 0 481) 0) = (s (481 + 481 * jk_)) from by rw [pk_cpy_in (by omega) (by omega)]; rfl) ?_
            exact hret (s (481 + 481 * jk_)) ((va_cpy s s (481 + 481 * jk_) 0 481), (recW was s st), (recN st)) H locs _ ls (show (s (481 + 481 * jk_)) = (rsR s (nI jk_)) ∧ (MACT s was st (rsO s (nI jk_)) (rsS s (nI jk_)) (va_cpy s s (481 + 481 * jk_) 0 481) (recW was s st) (recN st)) from (⟨by unfold rsR; rw [c6, if_pos rfl, cl_n (show jk_ < 2147483648 by omega), c22]; rfl, MACT.yes (by unfold rsO; rw [c6, cl_n (show jk_ < 2147483648 by omega), c22]; rfl) (by unfold rsS; rw [cl_n (show jk_ < 2147483648 by omega)])⟩)) rfl (hP.sub [0, 1, 2] rfl) (hD.sub [0, 1, 2] (by decide) rfl) hS dX8_restore_75
          · skip
            refine lv_aload_n hx hb dX8_restore_41 rfl (lv_at hl 0 rfl) ?_
            refine va_get (D := dg) (ci := 8) (v := .ref ms) (C := RX8) (T := TX8) (N := 10) hx hb hts in8 hown hK hP 0 rfl rfl 0 (by decide) f7 (fun _ h9 => h9) rfl dX8_restore_42 ?_
            refine lv_iload_n hx hb dX8_restore_45 rfl (lv_at hl 2 rfl) ?_
            refine lv_aload_n hx hb dX8_restore_46 rfl (lv_at hl 0 rfl) ?_
            refine va_get (D := dg) (ci := 8) (v := .ref ms) (C := RX8) (T := TX8) (N := 10) hx hb hts in8 hown hK hP 0 rfl rfl 0 (by decide) f7 (fun _ h9 => h9) rfl dX8_restore_47 ?_
            refine lv_sipush (v := (nI 481)) hx hb dX8_restore_50 (by decide) ?_
            refine lv_sipush (v := (nI 481)) hx hb dX8_restore_53 (by decide) ?_
            refine lv_iload_n hx hb dX8_restore_56 rfl (lv_at hl 1 rfl) ?_
            refine r_imul_n hx hb dX8_restore_57 ?_
            refine r_iadd_n hx hb dX8_restore_58 ?_
            refine lv_iload_n hx hb dX8_restore_59 rfl (lv_at hl 2 rfl) ?_
            refine r_iadd_n hx hb dX8_restore_60 ?_
            refine r_iald_n hx hb hK hP 1 rfl (k := ((481 + (481 * jk_)) + k_)) (by omega) (by omega) dX8_restore_61 ?_
            refine r_top (show (x_ ((481 + (481 * jk_)) + k_)) = (s (481 + 481 * jk_ + k_)) from by rw [hi2, pk_cpy_out (by omega)]) ?_
            refine r_iast_n hx hb hK hP hD hS 1 rfl (k := k_) (by omega) (by omega) dX8_restore_62 (fun H locs hP hD hS => ?_)
            have hP : va_P dg vwCl [(m0, .inr (8, [.ref ms, .ref mw, .int (nI (recN st)), .ref mt, .int xt, .int xa, .ref su, .ref pt, .ref td, .ref wy])), (ms, .inl (tq.1, 1445, .inl (upd x_ k_ (s (481 + 481 * jk_ + k_))))), (mw, .inl (tq.1, 7225, .inl (recW was s st)))] H := hP
            have hD : va_D AA [(m0, .inr (8, [.ref ms, .ref mw, .int (nI (recN st)), .ref mt, .int xt, .int xa, .ref su, .ref pt, .ref td, .ref wy])), (ms, .inl (tq.1, 1445, .inl (upd x_ k_ (s (481 + 481 * jk_ + k_))))), (mw, .inl (tq.1, 7225, .inl (recW was s st)))] := hD
            refine lv_iinc (v := (nI (k_ + 1))) (lv' := [(2, .int (nI (k_ + 1))), (0, .ref m0), (1, .int (nI jk_))]) hx hb dX8_restore_63 hl (k := 2) rfl (nI_add _ _) (by decide) rfl (fun ls hl => ?_)
            refine lv_goto (tgt := 34) hx hb dX8_restore_66 (by decide) ?_
            exact ih34 (k_ + 1) (upd x_ k_ (s (481 + 481 * jk_ + k_))) H locs ls (⟨by omega, by rw [hi2]; exact cpy_s0 s s (481 + 481 * jk_) k_⟩) (by omega) (hP.sub [0, 1, 2] rfl) (hD.sub [0, 1, 2] (by decide) rfl) hS (lv_sub hl [1, 2, 0] rfl)
      exact loop34 _ 0 s H locs ls (⟨by omega, (cpy_0 s s _ _).symm⟩) (Nat.lt_succ_self _) (hP.sub [0, 1, 2] rfl) (hD.sub [0, 1, 2] (by decide) rfl) hS (lv_sub hl [1, 2, 0] rfl)
    · skip
      have c22 : emptyB s jk_ = true := decide_eq_true (i32_eq c22)
      refine lv_ldc hx hb hown k71 dX8_restore_25 ?_
      exact hret (-100002) (s, was, st) H locs _ ls (show (-100002) = (rsR s (nI jk_)) ∧ (MACT s was st (rsO s (nI jk_)) (rsS s (nI jk_)) s was st) from (⟨by unfold rsR; rw [c6, if_pos rfl, cl_n (show jk_ < 2147483648 by omega), c22]; rfl, MACT.no (by unfold rsO; rw [c6, cl_n (show jk_ < 2147483648 by omega), c22]; rfl)⟩)) rfl (hP.sub [0, 1, 2] rfl) (hD.sub [0, 1, 2] (by decide) rfl) hS dX8_restore_27
  · skip
    refine lv_ldc hx hb hown k84 dX8_restore_9 ?_
    exact hret (-100001) (s, was, st) H locs _ ls (show (-100001) = (rsR s x) ∧ (MACT s was st (rsO s x) (rsS s x) s was st) from (⟨by unfold rsR; rw [c6]; rfl, MACT.no (by unfold rsO; rw [c6]; rfl)⟩)) rfl (hP.sub [0, 1, 2] rfl) (hD.sub [0, 1, 2] (by decide) rfl) hS dX8_restore_11
theorem hdX8_undo : yX8_undo.cls = RX8 ∧ yX8_undo.cls ≠ "java/lang/invoke/MethodHandle" ∧ yX8_undo.cls ≠ "java/lang/invoke/VarHandle" ∧ (parseMethodDescriptor yX8_undo.desc).map (fun d => d.parameters.length) = some 0 := by decide +kernel
set_option maxHeartbeats 4000000 in
set_option maxRecDepth 100000 in
theorem kX8_undo (ln : Launch) (dg : va_G) (tq : ClassId × ClassId) (m0 ms mw mt su pt td wy : Nat) (xt xa : Int32) (st : Nat) (hst : st ≤ 5) (s was : Row) : MW ln yX8_undo wsX8_undo (rmm 0 0) dg tq [.ref m0] [(m0, .inr (8, [.ref ms, .ref mw, .int (nI st), .ref mt, .int xt, .int xa, .ref su, .ref pt, .ref td, .ref wy])), (ms, .inl (tq.1, 1445, .inl s)), (mw, .inl (tq.1, 7225, .inl was))] (fun (r : Int32) (u : Row × Nat) => r = (unR st) ∧ (if st = 0 then u.1 = s ∧ u.2 = st else u.1 = va_cpy was s (1445 * (st - 1)) 0 1445 ∧ u.2 = st - 1)) (fun u => [(m0, .inr (8, [.ref ms, .ref mw, .int (nI u.2), .ref mt, .int xt, .int xa, .ref su, .ref pt, .ref td, .ref wy])), (ms, .inl (tq.1, 1445, .inl u.1)), (mw, .inl (tq.1, 7225, .inl was))]) := by
  refine MW.enter cX8_undo 2 .int (by decide) rfl rfl (Nat.le_of_ble_eq_true rfl) ?_
  intro pP eE sS mM aA bB mT cC QQ AA hA hAT hret H locs hP hD hS ls hl
  obtain ⟨hx, hb, hml, hown, hts, hK, hN⟩ := hAT
  have hown : sS.vm.findClass RX8 = some mM.cls := hown
  have hl : lv_has ls 2 [(0, .ref m0)] := hl
  have in8 : ∀ w ∈ u_ws RX8 TX8 10, w ∈ wsX8_undo := (fun _ h9 => List.mem_cons_of_mem _ (List.mem_append_right _ h9))
  have f37 := hts (.fieldLink RX8 37 "OrphanChainModel" "states" "I") (List.mem_of_getElem? (i := 1) rfl)
  have f7 := hts (.fieldLink RX8 7 "OrphanChainModel" "s" "[I") (List.mem_of_getElem? (i := 3) rfl)
  have f13 := hts (.fieldLink RX8 13 "OrphanChainModel" "was" "[I") (List.mem_of_getElem? (i := 4) rfl)
  have k71 := hts (.constant RX8 71 (-100002)) (List.mem_of_getElem? (i := 2) rfl)
  refine lv_aload_n hx hb dX8_undo_0 rfl (lv_at hl 0 rfl) ?_
  refine va_get (D := dg) (ci := 8) (v := .int (nI st)) (C := RX8) (T := TX8) (N := 10) hx hb hts in8 hown hK hP 0 rfl rfl 2 (by decide) f37 (fun _ h9 => h9) rfl dX8_undo_1 ?_
  refine r_if_ne (tgt := 10) hx hb (nI_tI (by omega)) dX8_undo_4 (by decide) (fun c4 => ?_) (fun c4 => ?_)
  · skip
    refine lv_aload_n hx hb dX8_undo_10 rfl (lv_at hl 0 rfl) ?_
    refine lv_dup hx hb dX8_undo_11 rfl ?_
    refine va_get (D := dg) (ci := 8) (v := .int (nI st)) (C := RX8) (T := TX8) (N := 10) hx hb hts in8 hown hK hP 0 rfl rfl 2 (by decide) f37 (fun _ h9 => h9) rfl dX8_undo_12 ?_
    refine lv_iconst (v := (nI 1)) hx hb dX8_undo_15 (by decide) ?_
    refine r_isub_n hx hb (by omega) dX8_undo_16 ?_
    refine va_put (D := dg) (ci := 8) (v := .int (nI (st - 1))) (ty := .int) (C := RX8) (T := TX8) (N := 10) hx hb hts in8 tyX8 tyX8_ok nmX8 hown hK hP hD hS 0 rfl rfl 2 (by decide) f37 (fun _ h9 => h9) rfl (by decide +kernel) rfl rfl (Nat.le_of_ble_eq_true rfl) dX8_undo_17 (fun H locs hP hD hS => ?_)
    have hP : va_P dg vwCl [(m0, .inr (8, [.ref ms, .ref mw, .int (nI (st - 1)), .ref mt, .int xt, .int xa, .ref su, .ref pt, .ref td, .ref wy])), (ms, .inl (tq.1, 1445, .inl s)), (mw, .inl (tq.1, 7225, .inl was))] H := hP
    have hD : va_D AA [(m0, .inr (8, [.ref ms, .ref mw, .int (nI (st - 1)), .ref mt, .int xt, .int xa, .ref su, .ref pt, .ref td, .ref wy])), (ms, .inl (tq.1, 1445, .inl s)), (mw, .inl (tq.1, 7225, .inl was))] := hD
    refine lv_iconst (v := (nI 0)) hx hb dX8_undo_20 (by decide) ?_
    refine lv_istore_n (lv' := [(1, .int (nI 0)), (0, .ref m0)]) hx hb dX8_undo_21 rfl hl (by decide) rfl (fun ls hl => ?_)
    have loop22 : ∀ (fu : Nat) (i_ : Nat) (x_ : Row) (H : Heap) (locs : List Loc) (ls : Array Slot), (i_ ≤ 1445 ∧ x_ = va_cpy was s (1445 * (st - 1)) 0 i_) → 1445 - i_ < fu → va_P dg vwCl [(m0, .inr (8, [.ref ms, .ref mw, .int (nI (st - 1)), .ref mt, .int xt, .int xa, .ref su, .ref pt, .ref td, .ref wy])), (ms, .inl (tq.1, 1445, .inl x_)), (mw, .inl (tq.1, 7225, .inl was))] H → va_D AA [(m0, .inr (8, [.ref ms, .ref mw, .int (nI (st - 1)), .ref mt, .int xt, .int xa, .ref su, .ref pt, .ref td, .ref wy])), (ms, .inl (tq.1, 1445, .inl x_)), (mw, .inl (tq.1, 7225, .inl was))] → va_S AA sS.heap H locs → lv_has ls 2 [(0, .ref m0), (1, .int (nI i_))] → W pP ln eE (rmm 0 0) sS mM aA bB mT cC H locs 0 0 QQ (F0 mM 22 ls []) := by
      intro fu
      induction fu with
      | zero => intro i_ x_ H locs ls _ hm; exact absurd hm (Nat.not_lt_zero _)
      | succ fu ih22 =>
        intro i_ x_ H locs ls hinv hm hP hD hS hl
        obtain ⟨hi1, hi2⟩ := hinv
        refine lv_iload_n hx hb dX8_undo_22 rfl (lv_at hl 1 rfl) ?_
        refine lv_sipush (v := (nI 1445)) hx hb dX8_undo_23 (by decide) ?_
        refine r_icmp_ge (tgt := 56) hx hb (nI_tI (by omega)) (nI_tI (by omega)) dX8_undo_26 (by decide) (fun c26 => ?_) (fun c26 => ?_)
        · skip
          have ew : x_ = (va_cpy was s (1445 * (st - 1)) 0 1445) := by rw [hi2, show i_ = 1445 by omega]
          have hP : va_P dg vwCl [(m0, .inr (8, [.ref ms, .ref mw, .int (nI (st - 1)), .ref mt, .int xt, .int xa, .ref su, .ref pt, .ref td, .ref wy])), (ms, .inl (tq.1, 1445, .inl (va_cpy was s (1445 * (st - 1)) 0 1445))), (mw, .inl (tq.1, 7225, .inl was))] H := by rw [← ew]; exact hP
          have hD : va_D AA [(m0, .inr (8, [.ref ms, .ref mw, .int (nI (st - 1)), .ref mt, .int xt, .int xa, .ref su, .ref pt, .ref td, .ref wy])), (ms, .inl (tq.1, 1445, .inl (va_cpy was s (1445 * (st - 1)) 0 1445))), (mw, .inl (tq.1, 7225, .inl was))] := by rw [← ew]; exact hD
          refine lv_aload_n hx hb dX8_undo_56 rfl (lv_at hl 0 rfl) ?_
          refine va_get (D := dg) (ci := 8) (v := .int (nI (st - 1))) (C := RX8) (T := TX8) (N := 10) hx hb hts in8 hown hK hP 0 rfl rfl 2 (by decide) f37 (fun _ h9 => h9) rfl dX8_undo_57 ?_
          exact hret (nI (st - 1)) ((va_cpy was s (1445 * (st - 1)) 0 1445), (st - 1)) H locs _ ls (show (nI (st - 1)) = (unR st) ∧ (if st = 0 then (va_cpy was s (1445 * (st - 1)) 0 1445) = s ∧ (st - 1) = st else (va_cpy was s (1445 * (st - 1)) 0 1445) = va_cpy was s (1445 * (st - 1)) 0 1445 ∧ (st - 1) = st - 1) from (⟨by unfold unR; rw [if_neg (by omega)], by rw [if_neg (by omega)]; exact ⟨rfl, rfl⟩⟩)) rfl (hP.sub [0, 1, 2] rfl) (hD.sub [0, 1, 2] (by decide) rfl) hS dX8_undo_60
        · skip
          refine lv_aload_n hx hb dX8_undo_29 rfl (lv_at hl 0 rfl) ?_
          refine va_get (D := dg) (ci := 8) (v := .ref ms) (C := RX8) (T := TX8) (N := 10) hx hb hts in8 hown hK hP 0 rfl rfl 0 (by decide) f7 (fun _ h9 => h9) rfl dX8_undo_30 ?_
          refine lv_iload_n hx hb dX8_undo_33 rfl (lv_at hl 1 rfl) ?_
          refine lv_aload_n hx hb dX8_undo_34 rfl (lv_at hl 0 rfl) ?_
          refine va_get (D := dg) (ci := 8) (v := .ref mw) (C := RX8) (T := TX8) (N := 10) hx hb hts in8 hown hK hP 0 rfl rfl 1 (by decide) f13 (fun _ h9 => h9) rfl dX8_undo_35 ?_
          refine lv_sipush (v := (nI 1445)) hx hb dX8_undo_38 (by decide) ?_
          refine lv_aload_n hx hb dX8_undo_41 rfl (lv_at hl 0 rfl) ?_
          refine va_get (D := dg) (ci := 8) (v := .int (nI (st - 1))) (C := RX8) (T := TX8) (N := 10) hx hb hts in8 hown hK hP 0 rfl rfl 2 (by decide) f37 (fun _ h9 => h9) rfl dX8_undo_42 ?_
          refine r_imul_n hx hb dX8_undo_45 ?_
          refine lv_iload_n hx hb dX8_undo_46 rfl (lv_at hl 1 rfl) ?_
          refine r_iadd_n hx hb dX8_undo_47 ?_
          refine r_iald_n hx hb hK hP 2 rfl (k := ((1445 * (st - 1)) + i_)) (by omega) (by omega) dX8_undo_48 ?_
          refine r_iast_n hx hb hK hP hD hS 1 rfl (k := i_) (by omega) (by omega) dX8_undo_49 (fun H locs hP hD hS => ?_)
          have hP : va_P dg vwCl [(m0, .inr (8, [.ref ms, .ref mw, .int (nI (st - 1)), .ref mt, .int xt, .int xa, .ref su, .ref pt, .ref td, .ref wy])), (ms, .inl (tq.1, 1445, .inl (upd x_ i_ (was ((1445 * (st - 1)) + i_))))), (mw, .inl (tq.1, 7225, .inl was))] H := hP
          have hD : va_D AA [(m0, .inr (8, [.ref ms, .ref mw, .int (nI (st - 1)), .ref mt, .int xt, .int xa, .ref su, .ref pt, .ref td, .ref wy])), (ms, .inl (tq.1, 1445, .inl (upd x_ i_ (was ((1445 * (st - 1)) + i_))))), (mw, .inl (tq.1, 7225, .inl was))] := hD
          refine lv_iinc (v := (nI (i_ + 1))) (lv' := [(1, .int (nI (i_ + 1))), (0, .ref m0)]) hx hb dX8_undo_50 hl (k := 1) rfl (nI_add _ _) (by decide) rfl (fun ls hl => ?_)
          refine lv_goto (tgt := 22) hx hb dX8_undo_53 (by decide) ?_
          exact ih22 (i_ + 1) (upd x_ i_ (was ((1445 * (st - 1)) + i_))) H locs ls (⟨by omega, by rw [hi2]; exact cpy_s0 was s (1445 * (st - 1)) i_⟩) (by omega) (hP.sub [0, 1, 2] rfl) (hD.sub [0, 1, 2] (by decide) rfl) hS (lv_sub hl [1, 0] rfl)
    exact loop22 _ 0 s H locs ls (⟨by omega, (cpy_0 was s _ _).symm⟩) (Nat.lt_succ_self _) (hP.sub [0, 1, 2] rfl) (hD.sub [0, 1, 2] (by decide) rfl) hS (lv_sub hl [1, 0] rfl)
  · skip
    refine lv_ldc hx hb hown k71 dX8_undo_7 ?_
    exact hret (-100002) (s, st) H locs _ ls (show (-100002) = (unR st) ∧ (if st = 0 then s = s ∧ st = st else s = va_cpy was s (1445 * (st - 1)) 0 1445 ∧ st = st - 1) from (⟨by unfold unR; rw [if_pos (by omega)], by rw [if_pos (by omega)]; exact ⟨rfl, rfl⟩⟩)) rfl (hP.sub [0, 1, 2] rfl) (hD.sub [0, 1, 2] (by decide) rfl) hS dX8_undo_9
theorem hdX8_append : yX8_append.cls = RX8 ∧ yX8_append.cls ≠ "java/lang/invoke/MethodHandle" ∧ yX8_append.cls ≠ "java/lang/invoke/VarHandle" ∧ (parseMethodDescriptor yX8_append.desc).map (fun d => d.parameters.length) = some 1 := by decide +kernel
set_option maxHeartbeats 4000000 in
set_option maxRecDepth 100000 in
theorem kX8_append (ln : Launch) (dg : va_G) (tq : ClassId × ClassId) (m0 ms mw mt su pt td wy : Nat) (xs xa : Int32) (T : Row) (tl : Nat) (x : Int32) (htl : tl ≤ 100) : MW ln yX8_append wsX8_append (rmm 1 22) dg tq [.ref m0, .int x] [(m0, .inr (8, [.ref ms, .ref mw, .int xs, .ref mt, .int (nI tl), .int xa, .ref su, .ref pt, .ref td, .ref wy])), (mt, .inl (tq.2, 100, .inl T))] (fun (r : Int32) (u : Nat × Row) => r = (apR tl x) ∧ (if apO tl x = true then u.1 = tl + 1 ∧ u.2 = upd T tl x else u.1 = tl ∧ u.2 = T)) (fun u => [(m0, .inr (8, [.ref ms, .ref mw, .int xs, .ref mt, .int (nI u.1), .int xa, .ref su, .ref pt, .ref td, .ref wy])), (mt, .inl (tq.2, 100, .inl u.2))]) := by
  refine MW.enter cX8_append 2 .int (by decide) rfl rfl (Nat.le_of_ble_eq_true rfl) ?_
  intro pP eE sS mM aA bB mT cC QQ AA hA hAT hret H locs hP hD hS ls hl
  obtain ⟨hx, hb, hml, hown, hts, hK, hN⟩ := hAT
  have hown : sS.vm.findClass RX8 = some mM.cls := hown
  have hl : lv_has ls 2 [(0, .ref m0), (1, .int x)] := hl
  have in8 : ∀ w ∈ u_ws RX8 TX8 10, w ∈ wsX8_append := (fun _ h9 => List.mem_cons_of_mem _ (List.mem_append_right _ h9))
  have f111 := hts (.fieldLink RX8 111 "OrphanChainModel" "typed" "I") (List.mem_of_getElem? (i := 2) rfl)
  have f16 := hts (.fieldLink RX8 16 "OrphanChainModel" "text" "[C") (List.mem_of_getElem? (i := 4) rfl)
  have k72 := hts (.constant RX8 72 (-100003)) (List.mem_of_getElem? (i := 3) rfl)
  have k84 := hts (.constant RX8 84 (-100001)) (List.mem_of_getElem? (i := 1) rfl)
  refine lv_iload_n hx hb dX8_append_0 rfl (lv_at hl 1 rfl) ?_
  refine lv_iconst (v := (nI 1)) hx hb dX8_append_1 (by decide) ?_
  refine lv_sipush (v := (nI 255)) hx hb dX8_append_2 (by decide) ?_
  refine call_x (va_runS (As := [.int x, .int (nI 1), .int (nI 255)]) (rest := []) ⟨hx, hb, hml, hown, hts⟩ (kX8_in ln dg tq (v := x) (lo := (nI 1)) (hi := (nI 255)) H.size) (va_cwS 3 hts gX8_append_X8_in rfl rfl rfl hdX8_in.2 ⟨Nat.le_of_ble_eq_true rfl, Nat.le_of_ble_eq_true rfl⟩) (preS0 hK hN [.int x, .int (nI 1), .int (nI 255)]) rfl rfl hl.1 rfl (lv_room (Nat.le_of_ble_eq_true rfl)) dX8_append_5 ⟨Nat.le_refl _, Nat.le_refl _⟩) hP hS hA (fun H locs hP hS => ?_)
  refine r_if_ne_b (tgt := 14) hx hb dX8_append_8 (by decide) (fun c8 => ?_) (fun c8 => ?_)
  · skip
    obtain ⟨xk_, hx1, hx2, rfl⟩ := inR_t (by omega) (by omega) c8
    refine lv_aload_n hx hb dX8_append_14 rfl (lv_at hl 0 rfl) ?_
    refine va_get (D := dg) (ci := 8) (v := .int (nI tl)) (C := RX8) (T := TX8) (N := 10) hx hb hts in8 hown hK hP 0 rfl rfl 4 (by decide) f111 (fun _ h9 => h9) rfl dX8_append_15 ?_
    refine lv_bipush (v := (nI 100)) hx hb dX8_append_18 (by decide) ?_
    refine r_icmp_ne (tgt := 26) hx hb (nI_tI (by omega)) (nI_tI (by omega)) dX8_append_20 (by decide) (fun c20 => ?_) (fun c20 => ?_)
    · skip
      refine lv_aload_n hx hb dX8_append_26 rfl (lv_at hl 0 rfl) ?_
      refine va_get (D := dg) (ci := 8) (v := .ref mt) (C := RX8) (T := TX8) (N := 10) hx hb hts in8 hown hK hP 0 rfl rfl 3 (by decide) f16 (fun _ h9 => h9) rfl dX8_append_27 ?_
      refine lv_aload_n hx hb dX8_append_30 rfl (lv_at hl 0 rfl) ?_
      refine va_get (D := dg) (ci := 8) (v := .int (nI tl)) (C := RX8) (T := TX8) (N := 10) hx hb hts in8 hown hK hP 0 rfl rfl 4 (by decide) f111 (fun _ h9 => h9) rfl dX8_append_31 ?_
      refine lv_iload_n hx hb dX8_append_34 rfl (lv_at hl 1 rfl) ?_
      refine lv_i2c hx hb dX8_append_35 rfl ?_
      refine r_top (show (((nI xk_).toUInt32 % 65536).toInt32) = (nI xk_) from i2c_n xk_ (by omega)) ?_
      refine r_cast_n hx hb hK hP hD hS 1 rfl (k := tl) (v := xk_) (by omega) (by omega) (by omega) dX8_append_36 (fun H locs hP hD hS => ?_)
      have hP : va_P dg vwCl [(m0, .inr (8, [.ref ms, .ref mw, .int xs, .ref mt, .int (nI tl), .int xa, .ref su, .ref pt, .ref td, .ref wy])), (mt, .inl (tq.2, 100, .inl (upd T tl (nI xk_))))] H := hP
      have hD : va_D AA [(m0, .inr (8, [.ref ms, .ref mw, .int xs, .ref mt, .int (nI tl), .int xa, .ref su, .ref pt, .ref td, .ref wy])), (mt, .inl (tq.2, 100, .inl (upd T tl (nI xk_))))] := hD
      refine lv_aload_n hx hb dX8_append_37 rfl (lv_at hl 0 rfl) ?_
      refine lv_dup hx hb dX8_append_38 rfl ?_
      refine va_get (D := dg) (ci := 8) (v := .int (nI tl)) (C := RX8) (T := TX8) (N := 10) hx hb hts in8 hown hK hP 0 rfl rfl 4 (by decide) f111 (fun _ h9 => h9) rfl dX8_append_39 ?_
      refine lv_iconst (v := (nI 1)) hx hb dX8_append_42 (by decide) ?_
      refine r_iadd_n hx hb dX8_append_43 ?_
      refine va_put (D := dg) (ci := 8) (v := .int (nI (tl + 1))) (ty := .int) (C := RX8) (T := TX8) (N := 10) hx hb hts in8 tyX8 tyX8_ok nmX8 hown hK hP hD hS 0 rfl rfl 4 (by decide) f111 (fun _ h9 => h9) rfl (by decide +kernel) rfl rfl (Nat.le_of_ble_eq_true rfl) dX8_append_44 (fun H locs hP hD hS => ?_)
      have hP : va_P dg vwCl [(m0, .inr (8, [.ref ms, .ref mw, .int xs, .ref mt, .int (nI (tl + 1)), .int xa, .ref su, .ref pt, .ref td, .ref wy])), (mt, .inl (tq.2, 100, .inl (upd T tl (nI xk_))))] H := hP
      have hD : va_D AA [(m0, .inr (8, [.ref ms, .ref mw, .int xs, .ref mt, .int (nI (tl + 1)), .int xa, .ref su, .ref pt, .ref td, .ref wy])), (mt, .inl (tq.2, 100, .inl (upd T tl (nI xk_))))] := hD
      refine lv_aload_n hx hb dX8_append_47 rfl (lv_at hl 0 rfl) ?_
      refine va_get (D := dg) (ci := 8) (v := .int (nI (tl + 1))) (C := RX8) (T := TX8) (N := 10) hx hb hts in8 hown hK hP 0 rfl rfl 4 (by decide) f111 (fun _ h9 => h9) rfl dX8_append_48 ?_
      exact hret (nI (tl + 1)) ((tl + 1), (upd T tl (nI xk_))) H locs _ ls (show (nI (tl + 1)) = (apR tl (nI xk_)) ∧ (if apO tl (nI xk_) = true then (tl + 1) = tl + 1 ∧ (upd T tl (nI xk_)) = upd T tl (nI xk_) else (tl + 1) = tl ∧ (upd T tl (nI xk_)) = T) from (⟨by unfold apR; rw [c8, if_pos rfl, if_neg (by omega)], by unfold apO; rw [c8, decide_eq_false (show ¬ tl = 100 by omega)]; exact ⟨rfl, rfl⟩⟩)) rfl (hP.sub [0, 1] rfl) (hD.sub [0, 1] (by decide) rfl) hS dX8_append_51
    · skip
      refine lv_ldc hx hb hown k72 dX8_append_23 ?_
      exact hret (-100003) (tl, T) H locs _ ls (show (-100003) = (apR tl (nI xk_)) ∧ (if apO tl (nI xk_) = true then tl = tl + 1 ∧ T = upd T tl (nI xk_) else tl = tl ∧ T = T) from (⟨by unfold apR; rw [c8, if_pos rfl, if_pos (by omega)], by unfold apO; rw [c8, decide_eq_true (show tl = 100 by omega)]; exact ⟨rfl, rfl⟩⟩)) rfl (hP.sub [0, 1] rfl) (hD.sub [0, 1] (by decide) rfl) hS dX8_append_25
  · skip
    refine lv_ldc hx hb hown k84 dX8_append_11 ?_
    exact hret (-100001) (tl, T) H locs _ ls (show (-100001) = (apR tl x) ∧ (if apO tl x = true then tl = tl + 1 ∧ T = upd T tl x else tl = tl ∧ T = T) from (⟨by unfold apR; rw [c8]; rfl, by unfold apO; rw [c8]; exact ⟨rfl, rfl⟩⟩)) rfl (hP.sub [0, 1] rfl) (hD.sub [0, 1] (by decide) rfl) hS dX8_append_13
theorem hdX8_clearText : yX8_clearText.cls = RX8 ∧ yX8_clearText.cls ≠ "java/lang/invoke/MethodHandle" ∧ yX8_clearText.cls ≠ "java/lang/invoke/VarHandle" ∧ (parseMethodDescriptor yX8_clearText.desc).map (fun d => d.parameters.length) = some 0 := by decide +kernel
set_option maxHeartbeats 4000000 in
set_option maxRecDepth 100000 in
theorem kX8_clearText (ln : Launch) (dg : va_G) (tq : ClassId × ClassId) (m0 ms mw mt su pt td wy : Nat) (xs xa : Int32) (T : Row) (tl : Nat) : MW ln yX8_clearText wsX8_clearText (rmm 0 0) dg tq [.ref m0] [(m0, .inr (8, [.ref ms, .ref mw, .int xs, .ref mt, .int (nI tl), .int xa, .ref su, .ref pt, .ref td, .ref wy])), (mt, .inl (tq.2, 100, .inl T))] (fun (r : Int32) (u : Unit) => r = (nI tl)) (fun u => [(m0, .inr (8, [.ref ms, .ref mw, .int xs, .ref mt, .int (nI 0), .int xa, .ref su, .ref pt, .ref td, .ref wy])), (mt, .inl (tq.2, 100, .inl T))]) := by
  refine MW.enter cX8_clearText 2 .int (by decide) rfl rfl (Nat.le_of_ble_eq_true rfl) ?_
  intro pP eE sS mM aA bB mT cC QQ AA hA hAT hret H locs hP hD hS ls hl
  obtain ⟨hx, hb, hml, hown, hts, hK, hN⟩ := hAT
  have hown : sS.vm.findClass RX8 = some mM.cls := hown
  have hl : lv_has ls 2 [(0, .ref m0)] := hl
  have in8 : ∀ w ∈ u_ws RX8 TX8 10, w ∈ wsX8_clearText := (fun _ h9 => List.mem_cons_of_mem _ (List.mem_append_right _ h9))
  have f111 := hts (.fieldLink RX8 111 "OrphanChainModel" "typed" "I") (List.mem_of_getElem? (i := 1) rfl)
  refine lv_aload_n hx hb dX8_clearText_0 rfl (lv_at hl 0 rfl) ?_
  refine va_get (D := dg) (ci := 8) (v := .int (nI tl)) (C := RX8) (T := TX8) (N := 10) hx hb hts in8 hown hK hP 0 rfl rfl 4 (by decide) f111 (fun _ h9 => h9) rfl dX8_clearText_1 ?_
  refine lv_istore_n (lv' := [(1, .int (nI tl)), (0, .ref m0)]) hx hb dX8_clearText_4 rfl hl (by decide) rfl (fun ls hl => ?_)
  refine lv_aload_n hx hb dX8_clearText_5 rfl (lv_at hl 1 rfl) ?_
  refine lv_iconst (v := (nI 0)) hx hb dX8_clearText_6 (by decide) ?_
  refine va_put (D := dg) (ci := 8) (v := .int (nI 0)) (ty := .int) (C := RX8) (T := TX8) (N := 10) hx hb hts in8 tyX8 tyX8_ok nmX8 hown hK hP hD hS 0 rfl rfl 4 (by decide) f111 (fun _ h9 => h9) rfl (by decide +kernel) rfl rfl (Nat.le_of_ble_eq_true rfl) dX8_clearText_7 (fun H locs hP hD hS => ?_)
  have hP : va_P dg vwCl [(m0, .inr (8, [.ref ms, .ref mw, .int xs, .ref mt, .int (nI 0), .int xa, .ref su, .ref pt, .ref td, .ref wy])), (mt, .inl (tq.2, 100, .inl T))] H := hP
  have hD : va_D AA [(m0, .inr (8, [.ref ms, .ref mw, .int xs, .ref mt, .int (nI 0), .int xa, .ref su, .ref pt, .ref td, .ref wy])), (mt, .inl (tq.2, 100, .inl T))] := hD
  refine lv_iload_n hx hb dX8_clearText_10 rfl (lv_at hl 0 rfl) ?_
  exact hret (nI tl) (()) H locs _ ls (rfl) rfl (hP.sub [0, 1] rfl) (hD.sub [0, 1] (by decide) rfl) hS dX8_clearText_11
