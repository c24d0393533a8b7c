theorem hdX8_count : yX8_count.cls = RX8 ∧ yX8_count.cls ≠ "java/lang/invoke/MethodHandle" ∧ yX8_count.cls ≠ "java/lang/invoke/VarHandle" ∧ (parseMethodDescriptor yX8_count.desc).map (fun d => d.parameters.length) = some 1 := by decide +kernel
set_option maxHeartbeats 4000000 in
set_option maxRecDepth 100000 in
theorem kX8_count (ln : Launch) (dg : va_G) (tq : ClassId × ClassId) (m0 ms mw mt su pt td wy : Nat) (xa : Int32) (st tl : Nat) (s : Row) (hW : WF s) (x : Int32) : MR ln yX8_count wsX8_count (rmm 4 86) dg tq [.ref m0, .int x] [(m0, .inr (8, [.ref ms, .ref mw, .int (nI st), .ref mt, .int (nI tl), .int xa, .ref su, .ref pt, .ref td, .ref wy])), (ms, .inl (tq.1, 1445, .inl s))] (fun r => r = (ctR s st tl x)) := by
  refine MR.enter cX8_count 2 .int (by decide) rfl rfl (Nat.le_of_ble_eq_true rfl) ?_
  intro pP eE sS mM aA bB mT cC QQ AA hA hAT hret H locs hP hS ls hl
  obtain ⟨hx, hb, hml, hown, hts, hK, hN⟩ := hAT
  have hown : sS.vm.findClass RX8 = some mM.cls := hown
  have hl : lv_has ls 2 [(0, .ref m0), (1, .int x)] := hl
  have in8 : ∀ w ∈ u_ws RX8 TX8 10, w ∈ wsX8_count := (fun _ h9 => List.mem_cons_of_mem _ (List.mem_append_right _ h9))
  have f7 := hts (.fieldLink RX8 7 "OrphanChainModel" "s" "[I") (List.mem_of_getElem? (i := 1) rfl)
  have f37 := hts (.fieldLink RX8 37 "OrphanChainModel" "states" "I") (List.mem_of_getElem? (i := 2) rfl)
  have f111 := hts (.fieldLink RX8 111 "OrphanChainModel" "typed" "I") (List.mem_of_getElem? (i := 3) rfl)
  have k84 := hts (.constant RX8 84 (-100001)) (List.mem_of_getElem? (i := 4) rfl)
  have hn60 := hW.n60
  have hb10 := hW.b10
  have hs8 := hW.s8
  have hhn := hW.hn
  refine lv_iload_n hx hb dX8_count_0 rfl (lv_at hl 1 rfl) ?_
  by_cases hsw : 0 ≤ x.toInt ∧ x.toInt < ((15 : Nat) : Int)
  · obtain ⟨jsw, hjsw, rfl⟩ := tI_natlt hsw.1 hsw.2
    rcases (show jsw = 0 ∨ jsw = 1 ∨ jsw = 2 ∨ jsw = 3 ∨ jsw = 4 ∨ jsw = 5 ∨ jsw = 6 ∨ jsw = 7 ∨ jsw = 8 ∨ jsw = 9 ∨ jsw = 10 ∨ jsw = 11 ∨ jsw = 12 ∨ jsw = 13 ∨ jsw = 14 by omega) with rfl | rfl | rfl | rfl | rfl | rfl | rfl | rfl | rfl | rfl | rfl | rfl | rfl | rfl | rfl
    · skip
      refine lv_tableIn (off := 75) (tgt := 76) hx hb dX8_count_1 (by decide) (by decide) rfl (by decide) ?_
      refine lv_aload_n hx hb dX8_count_76 rfl (lv_at hl 0 rfl) ?_
      refine va_get (D := dg) (ci := 8) (v := .ref ms) (C := RX8) (T := TX8) (N := 10) hx hb hts in8 hown hK hP 0 rfl rfl 0 (by decide) f7 (fun _ h9 => h9) rfl dX8_count_77 ?_
      refine lv_iload_n hx hb dX8_count_80 rfl (lv_at hl 1 rfl) ?_
      refine r_iald_n hx hb hK hP 1 rfl (k := 0) (by omega) (by omega) dX8_count_81 ?_
      refine r_top (show (s 0) = (nI (nE s)) from (hW.n)) ?_
      exact hret (nI (nE s)) H locs _ ls (by rw [ctR, hasN_n (by omega) (by omega), if_pos rfl, cl_n (by omega)]; rfl) rfl hS dX8_count_82
    · skip
      refine lv_tableIn (off := 75) (tgt := 76) hx hb dX8_count_1 (by decide) (by decide) rfl (by decide) ?_
      refine lv_aload_n hx hb dX8_count_76 rfl (lv_at hl 0 rfl) ?_
      refine va_get (D := dg) (ci := 8) (v := .ref ms) (C := RX8) (T := TX8) (N := 10) hx hb hts in8 hown hK hP 0 rfl rfl 0 (by decide) f7 (fun _ h9 => h9) rfl dX8_count_77 ?_
      refine lv_iload_n hx hb dX8_count_80 rfl (lv_at hl 1 rfl) ?_
      refine r_iald_n hx hb hK hP 1 rfl (k := 1) (by omega) (by omega) dX8_count_81 ?_
      refine r_top (show (s 1) = (nI (hE s)) from (hW.h)) ?_
      exact hret (nI (hE s)) H locs _ ls (by rw [ctR, hasN_n (by omega) (by omega), if_pos rfl, cl_n (by omega)]; rfl) rfl hS dX8_count_82
    · skip
      refine lv_tableIn (off := 82) (tgt := 83) hx hb dX8_count_1 (by decide) (by decide) rfl (by decide) ?_
      refine lv_aload_n hx hb dX8_count_83 rfl (lv_at hl 0 rfl) ?_
      refine lv_aload_n hx hb dX8_count_84 rfl (lv_at hl 0 rfl) ?_
      refine va_get (D := dg) (ci := 8) (v := .ref ms) (C := RX8) (T := TX8) (N := 10) hx hb hts in8 hown hK hP 0 rfl rfl 0 (by decide) f7 (fun _ h9 => h9) rfl dX8_count_85 ?_
      refine lv_iconst (v := (nI 1)) hx hb dX8_count_88 (by decide) ?_
      refine r_iald_n hx hb hK hP 1 rfl (k := 1) (by omega) (by omega) dX8_count_89 ?_
      refine r_top (show (s 1) = (nI (hE s)) from (hW.h)) ?_
      refine call_x (va_runV (As := [.int (nI (hE s))]) (rest := []) ⟨hx, hb, hml, hown, hts⟩ (kX8_depth ln dg tq (m0 := m0) (ms := ms) (mw := mw) (mt := mt) (su := su) (pt := pt) (td := td) (wy := wy) (xs := (nI st)) (xt := (nI tl)) (xa := xa) (s := s) (hW := hW) (y := hE s) (hy := (by omega)) H.size) (cwV 1 hts gX8_count_X8_depth rfl rfl rfl hdX8_depth ⟨Nat.le_of_ble_eq_true rfl, Nat.le_of_ble_eq_true rfl⟩) (preVR hK hN hP [0, 1] rfl 0 rfl rfl [.int (nI (hE s))]) rfl rfl hl.1 rfl (lv_room (Nat.le_of_ble_eq_true rfl)) dX8_count_90 ⟨Nat.le_refl _, Nat.le_refl _⟩) hP hS hA (fun H locs hP hS => ?_)
      exact hret (nI (dep s (hE s))) H locs _ ls (by rw [ctR, hasN_n (by omega) (by omega), if_pos rfl, cl_n (by omega)]; rfl) rfl hS dX8_count_93
    · skip
      refine lv_tableIn (off := 93) (tgt := 94) hx hb dX8_count_1 (by decide) (by decide) rfl (by decide) ?_
      refine lv_aload_n hx hb dX8_count_94 rfl (lv_at hl 0 rfl) ?_
      refine va_get (D := dg) (ci := 8) (v := .ref ms) (C := RX8) (T := TX8) (N := 10) hx hb hts in8 hown hK hP 0 rfl rfl 0 (by decide) f7 (fun _ h9 => h9) rfl dX8_count_95 ?_
      refine lv_iconst (v := (nI 2)) hx hb dX8_count_98 (by decide) ?_
      refine r_iald_n hx hb hK hP 1 rfl (k := 2) (by omega) (by omega) dX8_count_99 ?_
      refine r_top (show (s 2) = (nI (nB s)) from (hW.b)) ?_
      exact hret (nI (nB s)) H locs _ ls (by rw [ctR, hasN_n (by omega) (by omega), if_pos rfl, cl_n (by omega)]; rfl) rfl hS dX8_count_100
    · skip
      refine lv_tableIn (off := 100) (tgt := 101) hx hb dX8_count_1 (by decide) (by decide) rfl (by decide) ?_
      refine lv_aload_n hx hb dX8_count_101 rfl (lv_at hl 0 rfl) ?_
      refine call_x (va_runV (As := []) (rest := []) ⟨hx, hb, hml, hown, hts⟩ (kX8_waiting ln dg tq (m0 := m0) (ms := ms) (mw := mw) (mt := mt) (su := su) (pt := pt) (td := td) (wy := wy) (xs := (nI st)) (xt := (nI tl)) (xa := xa) (s := s) (hW := hW) H.size) (cwV 0 hts gX8_count_X8_waiting rfl rfl rfl hdX8_waiting ⟨Nat.le_of_ble_eq_true rfl, Nat.le_of_ble_eq_true rfl⟩) (preVR hK hN hP [0, 1] rfl 0 rfl rfl []) rfl rfl hl.1 rfl (lv_room (Nat.le_of_ble_eq_true rfl)) dX8_count_102 ⟨Nat.le_refl _, Nat.le_refl _⟩) hP hS hA (fun H locs hP hS => ?_)
      exact hret (nI (cntF (waitB s) (nB s))) H locs _ ls (by rw [ctR, hasN_n (by omega) (by omega), if_pos rfl, cl_n (by omega)]; rfl) rfl hS dX8_count_105
    · skip
      refine lv_tableIn (off := 105) (tgt := 106) hx hb dX8_count_1 (by decide) (by decide) rfl (by decide) ?_
      refine lv_aload_n hx hb dX8_count_106 rfl (lv_at hl 0 rfl) ?_
      refine call_x (va_runV (As := []) (rest := []) ⟨hx, hb, hml, hown, hts⟩ (kX8_louds ln dg tq (m0 := m0) (ms := ms) (mw := mw) (mt := mt) (su := su) (pt := pt) (td := td) (wy := wy) (xs := (nI st)) (xt := (nI tl)) (xa := xa) (s := s) (hW := hW) H.size) (cwV 0 hts gX8_count_X8_louds rfl rfl rfl hdX8_louds ⟨Nat.le_of_ble_eq_true rfl, Nat.le_of_ble_eq_true rfl⟩) (preVR hK hN hP [0, 1] rfl 0 rfl rfl []) rfl rfl hl.1 rfl (lv_room (Nat.le_of_ble_eq_true rfl)) dX8_count_107 ⟨Nat.le_refl _, Nat.le_refl _⟩) hP hS hA (fun H locs hP hS => ?_)
      exact hret (nI (cntF (loudB s) (nB s))) H locs _ ls (by rw [ctR, hasN_n (by omega) (by omega), if_pos rfl, cl_n (by omega)]; rfl) rfl hS dX8_count_110
    · skip
      refine lv_tableIn (off := 110) (tgt := 111) hx hb dX8_count_1 (by decide) (by decide) rfl (by decide) ?_
      refine lv_aload_n hx hb dX8_count_111 rfl (lv_at hl 0 rfl) ?_
      refine va_get (D := dg) (ci := 8) (v := .ref ms) (C := RX8) (T := TX8) (N := 10) hx hb hts in8 hown hK hP 0 rfl rfl 0 (by decide) f7 (fun _ h9 => h9) rfl dX8_count_112 ?_
      refine lv_iconst (v := (nI 3)) hx hb dX8_count_115 (by decide) ?_
      refine r_iald_n hx hb hK hP 1 rfl (k := 3) (by omega) (by omega) dX8_count_116 ?_
      exact hret (s 3) H locs _ ls (by rw [ctR, hasN_n (by omega) (by omega), if_pos rfl, cl_n (by omega)]; rfl) rfl hS dX8_count_117
    · skip
      refine lv_tableIn (off := 117) (tgt := 118) hx hb dX8_count_1 (by decide) (by decide) rfl (by decide) ?_
      refine lv_aload_n hx hb dX8_count_118 rfl (lv_at hl 0 rfl) ?_
      refine va_get (D := dg) (ci := 8) (v := .ref ms) (C := RX8) (T := TX8) (N := 10) hx hb hts in8 hown hK hP 0 rfl rfl 0 (by decide) f7 (fun _ h9 => h9) rfl dX8_count_119 ?_
      refine lv_iconst (v := (nI 4)) hx hb dX8_count_122 (by decide) ?_
      refine r_iald_n hx hb hK hP 1 rfl (k := 4) (by omega) (by omega) dX8_count_123 ?_
      refine r_top (show (s 4) = (nI (nS s)) from (hW.s)) ?_
      exact hret (nI (nS s)) H locs _ ls (by rw [ctR, hasN_n (by omega) (by omega), if_pos rfl, cl_n (by omega)]; rfl) rfl hS dX8_count_124
    · skip
      refine lv_tableIn (off := 124) (tgt := 125) hx hb dX8_count_1 (by decide) (by decide) rfl (by decide) ?_
      refine lv_aload_n hx hb dX8_count_125 rfl (lv_at hl 0 rfl) ?_
      refine call_x (va_runV (As := []) (rest := []) ⟨hx, hb, hml, hown, hts⟩ (kX8_broken ln dg tq (m0 := m0) (ms := ms) (mw := mw) (mt := mt) (su := su) (pt := pt) (td := td) (wy := wy) (xs := (nI st)) (xt := (nI tl)) (xa := xa) (s := s) (hW := hW) H.size) (cwV 0 hts gX8_count_X8_broken rfl rfl rfl hdX8_broken ⟨Nat.le_of_ble_eq_true rfl, Nat.le_of_ble_eq_true rfl⟩) (preVR hK hN hP [0, 1] rfl 0 rfl rfl []) rfl rfl hl.1 rfl (lv_room (Nat.le_of_ble_eq_true rfl)) dX8_count_126 ⟨Nat.le_refl _, Nat.le_refl _⟩) hP hS hA (fun H locs hP hS => ?_)
      exact hret (nI (cntF (fun k => !sealB s k) (nS s))) H locs _ ls (by rw [ctR, hasN_n (by omega) (by omega), if_pos rfl, cl_n (by omega)]; rfl) rfl hS dX8_count_129
    · skip
      refine lv_tableIn (off := 129) (tgt := 130) hx hb dX8_count_1 (by decide) (by decide) rfl (by decide) ?_
      refine lv_aload_n hx hb dX8_count_130 rfl (lv_at hl 0 rfl) ?_
      refine lv_iload_n hx hb dX8_count_131 rfl (lv_at hl 1 rfl) ?_
      refine lv_bipush (v := (nI 10)) hx hb dX8_count_132 (by decide) ?_
      refine r_icmp_ne (tgt := 141) hx hb (nI_tI (by omega)) (nI_tI (by omega)) dX8_count_134 (by decide) (fun c134 => ?_) (fun c134 => False.elim (by omega))
      refine lv_iconst (v := (nI 0)) hx hb dX8_count_141 (by decide) ?_
      refine r_top (show (nI 0) = (bI false) from rfl) ?_
      refine call_x (va_runV (As := [.int (bI false)]) (rest := []) ⟨hx, hb, hml, hown, hts⟩ (kX8_wrong ln dg tq (m0 := m0) (ms := ms) (mw := mw) (mt := mt) (su := su) (pt := pt) (td := td) (wy := wy) (xs := (nI st)) (xt := (nI tl)) (xa := xa) (s := s) (hW := hW) (f1 := false) H.size) (cwV 1 hts gX8_count_X8_wrong rfl rfl rfl hdX8_wrong ⟨Nat.le_of_ble_eq_true rfl, Nat.le_of_ble_eq_true rfl⟩) (preVR hK hN hP [0, 1] rfl 0 rfl rfl [.int (bI false)]) rfl rfl hl.1 rfl (lv_room (Nat.le_of_ble_eq_true rfl)) dX8_count_142 ⟨Nat.le_refl _, Nat.le_refl _⟩) hP hS hA (fun H locs hP hS => ?_)
      exact hret (if false = true then fstF (fun e => !fitE s e) 0 (nE s) else nI (cntF (fun e => !fitE s e) (nE s))) H locs _ ls (by rw [ctR, hasN_n (by omega) (by omega), if_pos rfl, cl_n (by omega)]; rfl) rfl hS dX8_count_145
    · skip
      refine lv_tableIn (off := 129) (tgt := 130) hx hb dX8_count_1 (by decide) (by decide) rfl (by decide) ?_
      refine lv_aload_n hx hb dX8_count_130 rfl (lv_at hl 0 rfl) ?_
      refine lv_iload_n hx hb dX8_count_131 rfl (lv_at hl 1 rfl) ?_
      refine lv_bipush (v := (nI 10)) hx hb dX8_count_132 (by decide) ?_
      refine r_icmp_ne (tgt := 141) hx hb (nI_tI (by omega)) (nI_tI (by omega)) dX8_count_134 (by decide) (fun c134 => False.elim (by omega)) (fun c134 => ?_)
      refine lv_iconst (v := (nI 1)) hx hb dX8_count_137 (by decide) ?_
      refine r_top (show (nI 1) = (bI true) from rfl) ?_
      refine lv_goto (tgt := 142) hx hb dX8_count_138 (by decide) ?_
      refine call_x (va_runV (As := [.int (bI true)]) (rest := []) ⟨hx, hb, hml, hown, hts⟩ (kX8_wrong ln dg tq (m0 := m0) (ms := ms) (mw := mw) (mt := mt) (su := su) (pt := pt) (td := td) (wy := wy) (xs := (nI st)) (xt := (nI tl)) (xa := xa) (s := s) (hW := hW) (f1 := true) H.size) (cwV 1 hts gX8_count_X8_wrong rfl rfl rfl hdX8_wrong ⟨Nat.le_of_ble_eq_true rfl, Nat.le_of_ble_eq_true rfl⟩) (preVR hK hN hP [0, 1] rfl 0 rfl rfl [.int (bI true)]) rfl rfl hl.1 rfl (lv_room (Nat.le_of_ble_eq_true rfl)) dX8_count_142 ⟨Nat.le_refl _, Nat.le_refl _⟩) hP hS hA (fun H locs hP hS => ?_)
      exact hret (if true = true then fstF (fun e => !fitE s e) 0 (nE s) else nI (cntF (fun e => !fitE s e) (nE s))) H locs _ ls (by rw [ctR, hasN_n (by omega) (by omega), if_pos rfl, cl_n (by omega)]; rfl) rfl hS dX8_count_145
    · skip
      refine lv_tableIn (off := 145) (tgt := 146) hx hb dX8_count_1 (by decide) (by decide) rfl (by decide) ?_
      refine lv_aload_n hx hb dX8_count_146 rfl (lv_at hl 0 rfl) ?_
      refine call_x (va_runV (As := []) (rest := []) ⟨hx, hb, hml, hown, hts⟩ (kX8_leaves ln dg tq (m0 := m0) (ms := ms) (mw := mw) (mt := mt) (su := su) (pt := pt) (td := td) (wy := wy) (xs := (nI st)) (xt := (nI tl)) (xa := xa) (s := s) (hW := hW) H.size) (cwV 0 hts gX8_count_X8_leaves rfl rfl rfl hdX8_leaves ⟨Nat.le_of_ble_eq_true rfl, Nat.le_of_ble_eq_true rfl⟩) (preVR hK hN hP [0, 1] rfl 0 rfl rfl []) rfl rfl hl.1 rfl (lv_room (Nat.le_of_ble_eq_true rfl)) dX8_count_147 ⟨Nat.le_refl _, Nat.le_refl _⟩) hP hS hA (fun H locs hP hS => ?_)
      exact hret (nI (cntF (leafB s) (nE s))) H locs _ ls (by rw [ctR, hasN_n (by omega) (by omega), if_pos rfl, cl_n (by omega)]; rfl) rfl hS dX8_count_150
    · skip
      refine lv_tableIn (off := 150) (tgt := 151) hx hb dX8_count_1 (by decide) (by decide) rfl (by decide) ?_
      refine lv_aload_n hx hb dX8_count_151 rfl (lv_at hl 0 rfl) ?_
      refine va_get (D := dg) (ci := 8) (v := .ref ms) (C := RX8) (T := TX8) (N := 10) hx hb hts in8 hown hK hP 0 rfl rfl 0 (by decide) f7 (fun _ h9 => h9) rfl dX8_count_152 ?_
      refine lv_sipush (v := (nI 1443)) hx hb dX8_count_155 (by decide) ?_
      refine r_iald_n hx hb hK hP 1 rfl (k := 1443) (by omega) (by omega) dX8_count_158 ?_
      refine lv_aload_n hx hb dX8_count_159 rfl (lv_at hl 0 rfl) ?_
      refine va_get (D := dg) (ci := 8) (v := .ref ms) (C := RX8) (T := TX8) (N := 10) hx hb hts in8 hown hK hP 0 rfl rfl 0 (by decide) f7 (fun _ h9 => h9) rfl dX8_count_160 ?_
      refine lv_sipush (v := (nI 1444)) hx hb dX8_count_163 (by decide) ?_
      refine r_iald_n hx hb hK hP 1 rfl (k := 1444) (by omega) (by omega) dX8_count_166 ?_
      refine lv_iadd hx hb dX8_count_167 ?_
      exact hret ((s 1443) + (s 1444)) H locs _ ls (by rw [ctR, hasN_n (by omega) (by omega), if_pos rfl, cl_n (by omega)]; rfl) rfl hS dX8_count_168
    · skip
      refine lv_tableIn (off := 168) (tgt := 169) hx hb dX8_count_1 (by decide) (by decide) rfl (by decide) ?_
      refine lv_aload_n hx hb dX8_count_169 rfl (lv_at hl 0 rfl) ?_
      refine va_get (D := dg) (ci := 8) (v := .int (nI st)) (C := RX8) (T := TX8) (N := 10) hx hb hts in8 hown hK hP 0 rfl rfl 2 (by decide) f37 (fun _ h9 => h9) rfl dX8_count_170 ?_
      exact hret (nI st) H locs _ ls (by rw [ctR, hasN_n (by omega) (by omega), if_pos rfl, cl_n (by omega)]; rfl) rfl hS dX8_count_173
    · skip
      refine lv_tableIn (off := 173) (tgt := 174) hx hb dX8_count_1 (by decide) (by decide) rfl (by decide) ?_
      refine lv_aload_n hx hb dX8_count_174 rfl (lv_at hl 0 rfl) ?_
      refine va_get (D := dg) (ci := 8) (v := .int (nI tl)) (C := RX8) (T := TX8) (N := 10) hx hb hts in8 hown hK hP 0 rfl rfl 4 (by decide) f111 (fun _ h9 => h9) rfl dX8_count_175 ?_
      exact hret (nI tl) H locs _ ls (by rw [ctR, hasN_n (by omega) (by omega), if_pos rfl, cl_n (by omega)]; rfl) rfl hS dX8_count_178
  · refine lv_tableOut (tgt := 179) hx hb dX8_count_1 (by omega) (by decide) ?_
    refine lv_ldc hx hb hown k84 dX8_count_179 ?_
    exact hret (-100001) H locs _ ls (by rw [ctR, if_neg (show ¬ hasN x 15 = true from fun z => hsw (of_decide_eq_true z))]) rfl hS dX8_count_181
theorem hdX8_entry : yX8_entry.cls = RX8 ∧ yX8_entry.cls ≠ "java/lang/invoke/MethodHandle" ∧ yX8_entry.cls ≠ "java/lang/invoke/VarHandle" ∧ (parseMethodDescriptor yX8_entry.desc).map (fun d => d.parameters.length) = some 2 := by decide +kernel
set_option maxHeartbeats 4000000 in
set_option maxRecDepth 100000 in
theorem kX8_entry (ln : Launch) (dg : va_G) (tq : ClassId × ClassId) (m0 ms mw mt su pt td wy : Nat) (xs xt xa : Int32) (s f : Row) (hW : WF s) (x w : Int32) : MW ln yX8_entry wsX8_entry (rmm 3 67) dg tq [.ref m0, .int x, .int w] [(m0, .inr (8, [.ref ms, .ref mw, .int xs, .ref mt, .int xt, .int xa, .ref su, .ref pt, .ref td, .ref wy])), (ms, .inl (tq.1, 1445, .inl s)), (su, .inl (tq.1, 6, .inl f))] (fun (r : Int32) (u : Row) => r = (etR s x w)) (fun u => [(m0, .inr (8, [.ref ms, .ref mw, .int xs, .ref mt, .int xt, .int xa, .ref su, .ref pt, .ref td, .ref wy])), (ms, .inl (tq.1, 1445, .inl s)), (su, .inl (tq.1, 6, .inl u))]) := by
  refine MW.enter cX8_entry 5 .int (by decide) rfl rfl (Nat.le_of_ble_eq_true rfl) ?_
  intro pP eE sS mM aA bB mT cC QQ AA hA hAT hret H locs hP hD hS ls hl
  obtain ⟨hx, hb, hml, hown, hts, hK, hN⟩ := hAT
  have hown : sS.vm.findClass RX8 = some mM.cls := hown
  have hl : lv_has ls 5 [(0, .ref m0), (1, .int x), (2, .int w)] := hl
  have in8 : ∀ w ∈ u_ws RX8 TX8 10, w ∈ wsX8_entry := (fun _ h9 => List.mem_cons_of_mem _ (List.mem_append_right _ h9))
  have k84 := hts (.constant RX8 84 (-100001)) (List.mem_of_getElem? (i := 1) rfl)
  have f7 := hts (.fieldLink RX8 7 "OrphanChainModel" "s" "[I") (List.mem_of_getElem? (i := 3) rfl)
  have f20 := hts (.fieldLink RX8 20 "OrphanChainModel" "sums" "[I") (List.mem_of_getElem? (i := 2) rfl)
  have hn60 := hW.n60
  have hb10 := hW.b10
  have hs8 := hW.s8
  have hhn := hW.hn
  refine lv_aload_n hx hb dX8_entry_0 rfl (lv_at hl 0 rfl) ?_
  refine lv_iload_n hx hb dX8_entry_1 rfl (lv_at hl 1 rfl) ?_
  refine call_x (va_runV (As := [.int x]) (rest := []) ⟨hx, hb, hml, hown, hts⟩ (kX8_isEntry ln dg tq (m0 := m0) (ms := ms) (mw := mw) (mt := mt) (su := su) (pt := pt) (td := td) (wy := wy) (xs := xs) (xt := xt) (xa := xa) (s := s) (hW := hW) (x := x) H.size) (cwV 1 hts gX8_entry_X8_isEntry rfl rfl rfl hdX8_isEntry ⟨Nat.le_of_ble_eq_true rfl, Nat.le_of_ble_eq_true rfl⟩) (preVR hK hN hP [0, 1] rfl 0 rfl rfl [.int x]) rfl rfl hl.1 rfl (lv_room (Nat.le_of_ble_eq_true rfl)) dX8_entry_2 ⟨Nat.le_refl _, Nat.le_refl _⟩) hP hS hA (fun H locs hP hS => ?_)
  refine r_if_eq_b (tgt := 18) hx hb dX8_entry_5 (by decide) (fun c5 => ?_) (fun c5 => ?_)
  · skip
    refine lv_ldc hx hb hown k84 dX8_entry_18 ?_
    exact hret (-100001) (f) H locs _ ls (by unfold etR; rw [if_neg (fun z => by rw [c5] at z; cases z.1)]) rfl (hP.sub [0, 1, 2] rfl) (hD.sub [0, 1, 2] (by decide) rfl) hS dX8_entry_20
  · skip
    refine lv_iload_n hx hb dX8_entry_8 rfl (lv_at hl 2 rfl) ?_
    refine lv_iconst (v := (nI 0)) hx hb dX8_entry_9 (by decide) ?_
    refine lv_bipush (v := (nI 10)) hx hb dX8_entry_10 (by decide) ?_
    refine call_x (va_runS (As := [.int w, .int (nI 0), .int (nI 10)]) (rest := []) ⟨hx, hb, hml, hown, hts⟩ (kX8_in ln dg tq (v := w) (lo := (nI 0)) (hi := (nI 10)) H.size) (va_cwS 3 hts gX8_entry_X8_in rfl rfl rfl hdX8_in.2 ⟨Nat.le_of_ble_eq_true rfl, Nat.le_of_ble_eq_true rfl⟩) (preS0 hK hN [.int w, .int (nI 0), .int (nI 10)]) rfl rfl hl.1 rfl (lv_room (Nat.le_of_ble_eq_true rfl)) dX8_entry_12 ⟨Nat.le_refl _, Nat.le_refl _⟩) hP hS hA (fun H locs hP hS => ?_)
    refine r_if_ne_b (tgt := 21) hx hb dX8_entry_15 (by decide) (fun c15 => ?_) (fun c15 => ?_)
    · skip
      obtain ⟨ek_, hek_, rfl⟩ := hasN_t c5
      obtain ⟨wk_, hw1, hw2, rfl⟩ := inR_t (a := 0) (b := 10) (by omega) (by omega) c15
      refine lv_aload_n hx hb dX8_entry_21 rfl (lv_at hl 0 rfl) ?_
      refine lv_iload_n hx hb dX8_entry_22 rfl (lv_at hl 1 rfl) ?_
      refine call_v (wr := []) (va_runV (As := [.int (nI ek_)]) (rest := []) ⟨hx, hb, hml, hown, hts⟩ (kX8_balances ln dg tq (m0 := m0) (ms := ms) (mw := mw) (mt := mt) (su := su) (pt := pt) (td := td) (wy := wy) (xs := xs) (xt := xt) (xa := xa) (s := s) (f := f) (hW := hW) (y := ek_) (hy := (by omega)) H.size) (cwV 1 hts gX8_entry_X8_balances rfl rfl rfl hdX8_balances ⟨Nat.le_of_ble_eq_true rfl, Nat.le_of_ble_eq_true rfl⟩) (preVB hK hN hP hD [0, 1, 2] rfl rfl rfl 0 rfl rfl [.int (nI ek_)]) rfl rfl hl.1 rfl (lv_room (Nat.le_of_ble_eq_true rfl)) dX8_entry_23 ⟨Nat.le_refl _, Nat.le_refl _⟩) hP hD hS hA [0, 1, 2] [] rfl rfl (by decide) (by decide) (fun u23 H locs hw23 hP hD hS => ?_)
      obtain ⟨g23, rfl⟩ : ∃ z, z = u23 := ⟨_, rfl⟩
      have hP : va_P dg vwCl [(m0, .inr (8, [.ref ms, .ref mw, .int xs, .ref mt, .int xt, .int xa, .ref su, .ref pt, .ref td, .ref wy])), (ms, .inl (tq.1, 1445, .inl s)), (su, .inl (tq.1, 6, .inl g23))] H := hP
      have hD : va_D AA [(m0, .inr (8, [.ref ms, .ref mw, .int xs, .ref mt, .int xt, .int xa, .ref su, .ref pt, .ref td, .ref wy])), (ms, .inl (tq.1, 1445, .inl s)), (su, .inl (tq.1, 6, .inl g23))] := hD
      refine lv_iconst (v := (nI 0)) hx hb dX8_entry_26 (by decide) ?_
      refine lv_istore_n (lv' := [(3, .int (nI 0)), (0, .ref m0), (1, .int (nI ek_)), (2, .int (nI wk_))]) hx hb dX8_entry_27 rfl hl (by decide) rfl (fun ls hl => ?_)
      refine lv_iconst (v := (nI 0)) hx hb dX8_entry_28 (by decide) ?_
      have hl : lv_has ls 5 [(3, .int (totF g23 0)), (0, .ref m0), (1, .int (nI ek_)), (2, .int (nI wk_))] := by have el : (nI 0) = (totF g23 0) := (rfl); rw [← el]; exact hl
      refine lv_istore (lv' := [(4, .int (nI 0)), (3, .int (totF g23 0)), (0, .ref m0), (1, .int (nI ek_)), (2, .int (nI wk_))]) hx hb dX8_entry_29 hl (by decide) rfl (fun ls hl => ?_)
      have loop31 : ∀ (fu : Nat) (k_ : Nat) (H : Heap) (locs : List Loc) (ls : Array Slot), (k_ ≤ 6) → 6 - k_ < fu → va_P dg vwCl [(m0, .inr (8, [.ref ms, .ref mw, .int xs, .ref mt, .int xt, .int xa, .ref su, .ref pt, .ref td, .ref wy])), (ms, .inl (tq.1, 1445, .inl s)), (su, .inl (tq.1, 6, .inl g23))] H → va_D AA [(m0, .inr (8, [.ref ms, .ref mw, .int xs, .ref mt, .int xt, .int xa, .ref su, .ref pt, .ref td, .ref wy])), (ms, .inl (tq.1, 1445, .inl s)), (su, .inl (tq.1, 6, .inl g23))] → va_S AA sS.heap H locs → lv_has ls 5 [(0, .ref m0), (1, .int (nI ek_)), (2, .int (nI wk_)), (3, .int (totF g23 k_)), (4, .int (nI k_))] → W pP ln eE (rmm 3 67) sS mM aA bB mT cC H locs 0 0 QQ (F0 mM 31 ls []) := by
        intro fu
        induction fu with
        | zero => intro k_ H locs ls _ hm; exact absurd hm (Nat.not_lt_zero _)
        | succ fu ih31 =>
          intro k_ H locs ls hinv hm hP hD hS hl
          refine lv_iload hx hb dX8_entry_31 (lv_at hl 4 rfl) ?_
          refine lv_bipush (v := (nI 6)) hx hb dX8_entry_33 (by decide) ?_
          refine r_icmp_ge (tgt := 54) hx hb (nI_tI (by omega)) (nI_tI (by omega)) dX8_entry_35 (by decide) (fun c35 => ?_) (fun c35 => ?_)
          · skip
            have htt : totF g23 6 = totI (bal s ek_) 6 := totF_I hw23 (Nat.le_refl _)
            have hl : lv_has ls 5 [(0, .ref m0), (1, .int (nI ek_)), (2, .int (nI wk_)), (3, .int (totI (bal s ek_) 6)), (4, .int (nI k_))] := by have el : (totF g23 k_) = (totI (bal s ek_) 6) := (by rw [← htt, show k_ = 6 by omega]); rw [← el]; exact hl
            refine lv_iload_n hx hb dX8_entry_54 rfl (lv_at hl 2 rfl) ?_
            rcases (show wk_ = 0 ∨ wk_ = 1 ∨ wk_ = 2 ∨ wk_ = 3 ∨ wk_ = 4 ∨ wk_ = 5 ∨ wk_ = 6 ∨ wk_ = 7 ∨ wk_ = 8 ∨ wk_ = 9 ∨ wk_ = 10 by omega) with rfl | rfl | rfl | rfl | rfl | rfl | rfl | rfl | rfl | rfl | rfl
            · skip
              refine lv_tableOut (tgt := 166) hx hb dX8_entry_55 (by decide) (by decide) ?_
              refine lv_aload_n hx hb dX8_entry_166 rfl (lv_at hl 0 rfl) ?_
              refine lv_iload_n hx hb dX8_entry_167 rfl (lv_at hl 1 rfl) ?_
              refine lv_iconst (v := (nI 1)) hx hb dX8_entry_168 (by decide) ?_
              refine lv_iload_n hx hb dX8_entry_169 rfl (lv_at hl 2 rfl) ?_
              refine r_iadd_n hx hb dX8_entry_170 ?_
              refine call_x (va_runV (As := [.int (nI ek_), .int (nI (1 + 0))]) (rest := []) ⟨hx, hb, hml, hown, hts⟩ (kX8_en ln dg tq (m0 := m0) (ms := ms) (mw := mw) (mt := mt) (su := su) (pt := pt) (td := td) (wy := wy) (xs := xs) (xt := xt) (xa := xa) (s := s) (e := ek_) (f := 1 + 0) (he := (by omega)) (hf := (by omega)) H.size) (cwV 2 hts gX8_entry_X8_en rfl rfl rfl hdX8_en ⟨Nat.le_of_ble_eq_true rfl, Nat.le_of_ble_eq_true rfl⟩) (preVR hK hN hP [0, 1] rfl 0 rfl rfl [.int (nI ek_), .int (nI (1 + 0))]) rfl rfl hl.1 rfl (lv_room (Nat.le_of_ble_eq_true rfl)) dX8_entry_171 ⟨Nat.le_refl _, Nat.le_refl _⟩) hP hS hA (fun H locs hP hS => ?_)
              exact hret (s (5 + 7 * ek_ + (1 + 0))) (g23) H locs _ ls (by unfold etR; rw [if_pos ⟨hasN_n (by omega) (by omega), hasN_n (by omega) (by omega)⟩, cl_n (by omega), cl_n (by omega)]; rfl) rfl (hP.sub [0, 1, 2] rfl) (hD.sub [0, 1, 2] (by decide) rfl) hS dX8_entry_174
            · skip
              refine lv_tableOut (tgt := 166) hx hb dX8_entry_55 (by decide) (by decide) ?_
              refine lv_aload_n hx hb dX8_entry_166 rfl (lv_at hl 0 rfl) ?_
              refine lv_iload_n hx hb dX8_entry_167 rfl (lv_at hl 1 rfl) ?_
              refine lv_iconst (v := (nI 1)) hx hb dX8_entry_168 (by decide) ?_
              refine lv_iload_n hx hb dX8_entry_169 rfl (lv_at hl 2 rfl) ?_
              refine r_iadd_n hx hb dX8_entry_170 ?_
              refine call_x (va_runV (As := [.int (nI ek_), .int (nI (1 + 1))]) (rest := []) ⟨hx, hb, hml, hown, hts⟩ (kX8_en ln dg tq (m0 := m0) (ms := ms) (mw := mw) (mt := mt) (su := su) (pt := pt) (td := td) (wy := wy) (xs := xs) (xt := xt) (xa := xa) (s := s) (e := ek_) (f := 1 + 1) (he := (by omega)) (hf := (by omega)) H.size) (cwV 2 hts gX8_entry_X8_en rfl rfl rfl hdX8_en ⟨Nat.le_of_ble_eq_true rfl, Nat.le_of_ble_eq_true rfl⟩) (preVR hK hN hP [0, 1] rfl 0 rfl rfl [.int (nI ek_), .int (nI (1 + 1))]) rfl rfl hl.1 rfl (lv_room (Nat.le_of_ble_eq_true rfl)) dX8_entry_171 ⟨Nat.le_refl _, Nat.le_refl _⟩) hP hS hA (fun H locs hP hS => ?_)
              exact hret (s (5 + 7 * ek_ + (1 + 1))) (g23) H locs _ ls (by unfold etR; rw [if_pos ⟨hasN_n (by omega) (by omega), hasN_n (by omega) (by omega)⟩, cl_n (by omega), cl_n (by omega)]; rfl) rfl (hP.sub [0, 1, 2] rfl) (hD.sub [0, 1, 2] (by decide) rfl) hS dX8_entry_174
            · skip
              refine lv_tableOut (tgt := 166) hx hb dX8_entry_55 (by decide) (by decide) ?_
              refine lv_aload_n hx hb dX8_entry_166 rfl (lv_at hl 0 rfl) ?_
              refine lv_iload_n hx hb dX8_entry_167 rfl (lv_at hl 1 rfl) ?_
              refine lv_iconst (v := (nI 1)) hx hb dX8_entry_168 (by decide) ?_
              refine lv_iload_n hx hb dX8_entry_169 rfl (lv_at hl 2 rfl) ?_
              refine r_iadd_n hx hb dX8_entry_170 ?_
              refine call_x (va_runV (As := [.int (nI ek_), .int (nI (1 + 2))]) (rest := []) ⟨hx, hb, hml, hown, hts⟩ (kX8_en ln dg tq (m0 := m0) (ms := ms) (mw := mw) (mt := mt) (su := su) (pt := pt) (td := td) (wy := wy) (xs := xs) (xt := xt) (xa := xa) (s := s) (e := ek_) (f := 1 + 2) (he := (by omega)) (hf := (by omega)) H.size) (cwV 2 hts gX8_entry_X8_en rfl rfl rfl hdX8_en ⟨Nat.le_of_ble_eq_true rfl, Nat.le_of_ble_eq_true rfl⟩) (preVR hK hN hP [0, 1] rfl 0 rfl rfl [.int (nI ek_), .int (nI (1 + 2))]) rfl rfl hl.1 rfl (lv_room (Nat.le_of_ble_eq_true rfl)) dX8_entry_171 ⟨Nat.le_refl _, Nat.le_refl _⟩) hP hS hA (fun H locs hP hS => ?_)
              exact hret (s (5 + 7 * ek_ + (1 + 2))) (g23) H locs _ ls (by unfold etR; rw [if_pos ⟨hasN_n (by omega) (by omega), hasN_n (by omega) (by omega)⟩, cl_n (by omega), cl_n (by omega)]; rfl) rfl (hP.sub [0, 1, 2] rfl) (hD.sub [0, 1, 2] (by decide) rfl) hS dX8_entry_174
            · skip
              refine lv_tableOut (tgt := 166) hx hb dX8_entry_55 (by decide) (by decide) ?_
              refine lv_aload_n hx hb dX8_entry_166 rfl (lv_at hl 0 rfl) ?_
              refine lv_iload_n hx hb dX8_entry_167 rfl (lv_at hl 1 rfl) ?_
              refine lv_iconst (v := (nI 1)) hx hb dX8_entry_168 (by decide) ?_
              refine lv_iload_n hx hb dX8_entry_169 rfl (lv_at hl 2 rfl) ?_
              refine r_iadd_n hx hb dX8_entry_170 ?_
              refine call_x (va_runV (As := [.int (nI ek_), .int (nI (1 + 3))]) (rest := []) ⟨hx, hb, hml, hown, hts⟩ (kX8_en ln dg tq (m0 := m0) (ms := ms) (mw := mw) (mt := mt) (su := su) (pt := pt) (td := td) (wy := wy) (xs := xs) (xt := xt) (xa := xa) (s := s) (e := ek_) (f := 1 + 3) (he := (by omega)) (hf := (by omega)) H.size) (cwV 2 hts gX8_entry_X8_en rfl rfl rfl hdX8_en ⟨Nat.le_of_ble_eq_true rfl, Nat.le_of_ble_eq_true rfl⟩) (preVR hK hN hP [0, 1] rfl 0 rfl rfl [.int (nI ek_), .int (nI (1 + 3))]) rfl rfl hl.1 rfl (lv_room (Nat.le_of_ble_eq_true rfl)) dX8_entry_171 ⟨Nat.le_refl _, Nat.le_refl _⟩) hP hS hA (fun H locs hP hS => ?_)
              exact hret (s (5 + 7 * ek_ + (1 + 3))) (g23) H locs _ ls (by unfold etR; rw [if_pos ⟨hasN_n (by omega) (by omega), hasN_n (by omega) (by omega)⟩, cl_n (by omega), cl_n (by omega)]; rfl) rfl (hP.sub [0, 1, 2] rfl) (hD.sub [0, 1, 2] (by decide) rfl) hS dX8_entry_174
            · skip
              refine lv_tableIn (off := 41) (tgt := 96) hx hb dX8_entry_55 (by decide) (by decide) rfl (by decide) ?_
              refine lv_aload_n hx hb dX8_entry_96 rfl (lv_at hl 0 rfl) ?_
              refine lv_iload_n hx hb dX8_entry_97 rfl (lv_at hl 1 rfl) ?_
              refine lv_iconst (v := (nI 0)) hx hb dX8_entry_98 (by decide) ?_
              refine call_x (va_runV (As := [.int (nI ek_), .int (nI 0)]) (rest := []) ⟨hx, hb, hml, hown, hts⟩ (kX8_en ln dg tq (m0 := m0) (ms := ms) (mw := mw) (mt := mt) (su := su) (pt := pt) (td := td) (wy := wy) (xs := xs) (xt := xt) (xa := xa) (s := s) (e := ek_) (f := 0) (he := (by omega)) (hf := (by omega)) H.size) (cwV 2 hts gX8_entry_X8_en rfl rfl rfl hdX8_en ⟨Nat.le_of_ble_eq_true rfl, Nat.le_of_ble_eq_true rfl⟩) (preVR hK hN hP [0, 1] rfl 0 rfl rfl [.int (nI ek_), .int (nI 0)]) rfl rfl hl.1 rfl (lv_room (Nat.le_of_ble_eq_true rfl)) dX8_entry_99 ⟨Nat.le_refl _, Nat.le_refl _⟩) hP hS hA (fun H locs hP hS => ?_)
              exact hret (s (5 + 7 * ek_ + 0)) (g23) H locs _ ls (by unfold etR; rw [if_pos ⟨hasN_n (by omega) (by omega), hasN_n (by omega) (by omega)⟩, cl_n (by omega), cl_n (by omega)]; rfl) rfl (hP.sub [0, 1, 2] rfl) (hD.sub [0, 1, 2] (by decide) rfl) hS dX8_entry_102
            · skip
              refine lv_tableIn (off := 48) (tgt := 103) hx hb dX8_entry_55 (by decide) (by decide) rfl (by decide) ?_
              refine lv_aload_n hx hb dX8_entry_103 rfl (lv_at hl 0 rfl) ?_
              refine lv_iload_n hx hb dX8_entry_104 rfl (lv_at hl 1 rfl) ?_
              refine lv_iconst (v := (nI 5)) hx hb dX8_entry_105 (by decide) ?_
              refine call_x (va_runV (As := [.int (nI ek_), .int (nI 5)]) (rest := []) ⟨hx, hb, hml, hown, hts⟩ (kX8_en ln dg tq (m0 := m0) (ms := ms) (mw := mw) (mt := mt) (su := su) (pt := pt) (td := td) (wy := wy) (xs := xs) (xt := xt) (xa := xa) (s := s) (e := ek_) (f := 5) (he := (by omega)) (hf := (by omega)) H.size) (cwV 2 hts gX8_entry_X8_en rfl rfl rfl hdX8_en ⟨Nat.le_of_ble_eq_true rfl, Nat.le_of_ble_eq_true rfl⟩) (preVR hK hN hP [0, 1] rfl 0 rfl rfl [.int (nI ek_), .int (nI 5)]) rfl rfl hl.1 rfl (lv_room (Nat.le_of_ble_eq_true rfl)) dX8_entry_106 ⟨Nat.le_refl _, Nat.le_refl _⟩) hP hS hA (fun H locs hP hS => ?_)
              refine r_top (show (s (5 + 7 * ek_ + 5)) = (me s ek_ 5) from rfl) ?_
              exact hret (me s ek_ 5) (g23) H locs _ ls (by unfold etR; rw [if_pos ⟨hasN_n (by omega) (by omega), hasN_n (by omega) (by omega)⟩, cl_n (by omega), cl_n (by omega)]; rfl) rfl (hP.sub [0, 1, 2] rfl) (hD.sub [0, 1, 2] (by decide) rfl) hS dX8_entry_109
            · skip
              refine lv_tableIn (off := 55) (tgt := 110) hx hb dX8_entry_55 (by decide) (by decide) rfl (by decide) ?_
              refine lv_aload_n hx hb dX8_entry_110 rfl (lv_at hl 0 rfl) ?_
              refine lv_iload_n hx hb dX8_entry_111 rfl (lv_at hl 1 rfl) ?_
              refine lv_iconst (v := (nI 5)) hx hb dX8_entry_112 (by decide) ?_
              refine call_x (va_runV (As := [.int (nI ek_), .int (nI 5)]) (rest := []) ⟨hx, hb, hml, hown, hts⟩ (kX8_en ln dg tq (m0 := m0) (ms := ms) (mw := mw) (mt := mt) (su := su) (pt := pt) (td := td) (wy := wy) (xs := xs) (xt := xt) (xa := xa) (s := s) (e := ek_) (f := 5) (he := (by omega)) (hf := (by omega)) H.size) (cwV 2 hts gX8_entry_X8_en rfl rfl rfl hdX8_en ⟨Nat.le_of_ble_eq_true rfl, Nat.le_of_ble_eq_true rfl⟩) (preVR hK hN hP [0, 1] rfl 0 rfl rfl [.int (nI ek_), .int (nI 5)]) rfl rfl hl.1 rfl (lv_room (Nat.le_of_ble_eq_true rfl)) dX8_entry_113 ⟨Nat.le_refl _, Nat.le_refl _⟩) hP hS hA (fun H locs hP hS => ?_)
              refine r_top (show (s (5 + 7 * ek_ + 5)) = (me s ek_ 5) from rfl) ?_
              refine lv_aload_n hx hb dX8_entry_116 rfl (lv_at hl 0 rfl) ?_
              refine lv_iload_n hx hb dX8_entry_117 rfl (lv_at hl 1 rfl) ?_
              refine call_x (va_runV (As := [.int (nI ek_)]) (rest := [.int (me s ek_ 5)]) ⟨hx, hb, hml, hown, hts⟩ (kX8_fitting ln dg tq (m0 := m0) (ms := ms) (mw := mw) (mt := mt) (su := su) (pt := pt) (td := td) (wy := wy) (xs := xs) (xt := xt) (xa := xa) (s := s) (e := ek_) (p := pa s ek_) (he := (by omega)) (hp := (fun h0 => hW.p h0 (by omega))) (hp2 := (fun h0 => by have hpl := hW.pl h0 (by omega); omega)) H.size) (cwV 1 hts gX8_entry_X8_fitting rfl rfl rfl hdX8_fitting ⟨Nat.le_of_ble_eq_true rfl, Nat.le_of_ble_eq_true rfl⟩) (preVR hK hN hP [0, 1] rfl 0 rfl rfl [.int (nI ek_)]) rfl rfl hl.1 rfl (lv_room (Nat.le_of_ble_eq_true rfl)) dX8_entry_118 ⟨Nat.le_refl _, Nat.le_refl _⟩) hP hS hA (fun H locs hP hS => ?_)
              refine r_top (show (mfit s ek_ (pa s ek_)) = (fit s ek_) from mfit_eq s ek_) ?_
              refine lv_icmp_ne (tgt := 128) hx hb dX8_entry_121 (by decide) (fun c121 => ?_) (fun c121 => ?_)
              · skip
                refine lv_iconst (v := (nI 0)) hx hb dX8_entry_128 (by decide) ?_
                exact hret (nI 0) (g23) H locs _ ls (by unfold etR; rw [if_pos ⟨hasN_n (by omega) (by omega), hasN_n (by omega) (by omega)⟩, cl_n (by omega), cl_n (by omega)]; exact (by show _ = bI (fitE s ek_); unfold fitE; first | rw [decide_eq_true c121]; rfl | rw [decide_eq_false c121]; rfl)) rfl (hP.sub [0, 1, 2] rfl) (hD.sub [0, 1, 2] (by decide) rfl) hS dX8_entry_129
              · skip
                refine lv_iconst (v := (nI 1)) hx hb dX8_entry_124 (by decide) ?_
                refine lv_goto (tgt := 129) hx hb dX8_entry_125 (by decide) ?_
                exact hret (nI 1) (g23) H locs _ ls (by unfold etR; rw [if_pos ⟨hasN_n (by omega) (by omega), hasN_n (by omega) (by omega)⟩, cl_n (by omega), cl_n (by omega)]; exact (by show _ = bI (fitE s ek_); unfold fitE; first | rw [decide_eq_true c121]; rfl | rw [decide_eq_false c121]; rfl)) rfl (hP.sub [0, 1, 2] rfl) (hD.sub [0, 1, 2] (by decide) rfl) hS dX8_entry_129
            · skip
              refine lv_tableIn (off := 75) (tgt := 130) hx hb dX8_entry_55 (by decide) (by decide) rfl (by decide) ?_
              refine lv_aload_n hx hb dX8_entry_130 rfl (lv_at hl 0 rfl) ?_
              refine lv_iload_n hx hb dX8_entry_131 rfl (lv_at hl 1 rfl) ?_
              refine lv_aload_n hx hb dX8_entry_132 rfl (lv_at hl 0 rfl) ?_
              refine va_get (D := dg) (ci := 8) (v := .ref ms) (C := RX8) (T := TX8) (N := 10) hx hb hts in8 hown hK hP 0 rfl rfl 0 (by decide) f7 (fun _ h9 => h9) rfl dX8_entry_133 ?_
              refine lv_iconst (v := (nI 1)) hx hb dX8_entry_136 (by decide) ?_
              refine r_iald_n hx hb hK hP 1 rfl (k := 1) (by omega) (by omega) dX8_entry_137 ?_
              refine r_top (show (s 1) = (nI (hE s)) from (hW.h)) ?_
              refine call_x (va_runV (As := [.int (nI ek_), .int (nI (hE s))]) (rest := []) ⟨hx, hb, hml, hown, hts⟩ (kX8_isOnPath ln dg tq (m0 := m0) (ms := ms) (mw := mw) (mt := mt) (su := su) (pt := pt) (td := td) (wy := wy) (xs := xs) (xt := xt) (xa := xa) (s := s) (hW := hW) (x := ek_) (y := hE s) (hx := (by omega)) (hy := (by omega)) H.size) (cwV 2 hts gX8_entry_X8_isOnPath rfl rfl rfl hdX8_isOnPath ⟨Nat.le_of_ble_eq_true rfl, Nat.le_of_ble_eq_true rfl⟩) (preVR hK hN hP [0, 1] rfl 0 rfl rfl [.int (nI ek_), .int (nI (hE s))]) rfl rfl hl.1 rfl (lv_room (Nat.le_of_ble_eq_true rfl)) dX8_entry_138 ⟨Nat.le_refl _, Nat.le_refl _⟩) hP hS hA (fun H locs hP hS => ?_)
              refine r_if_eq_b (tgt := 148) hx hb dX8_entry_141 (by decide) (fun c141 => ?_) (fun c141 => ?_)
              · skip
                refine lv_iconst (v := (nI 0)) hx hb dX8_entry_148 (by decide) ?_
                exact hret (nI 0) (g23) H locs _ ls (by unfold etR; rw [if_pos ⟨hasN_n (by omega) (by omega), hasN_n (by omega) (by omega)⟩, cl_n (by omega), cl_n (by omega)]; exact (by show _ = bI (onP s ek_ (hE s)); rw [c141]; rfl)) rfl (hP.sub [0, 1, 2] rfl) (hD.sub [0, 1, 2] (by decide) rfl) hS dX8_entry_149
              · skip
                refine lv_iconst (v := (nI 1)) hx hb dX8_entry_144 (by decide) ?_
                refine lv_goto (tgt := 149) hx hb dX8_entry_145 (by decide) ?_
                exact hret (nI 1) (g23) H locs _ ls (by unfold etR; rw [if_pos ⟨hasN_n (by omega) (by omega), hasN_n (by omega) (by omega)⟩, cl_n (by omega), cl_n (by omega)]; exact (by show _ = bI (onP s ek_ (hE s)); rw [c141]; rfl)) rfl (hP.sub [0, 1, 2] rfl) (hD.sub [0, 1, 2] (by decide) rfl) hS dX8_entry_149
            · skip
              refine lv_tableIn (off := 95) (tgt := 150) hx hb dX8_entry_55 (by decide) (by decide) rfl (by decide) ?_
              refine lv_aload_n hx hb dX8_entry_150 rfl (lv_at hl 0 rfl) ?_
              refine lv_iload_n hx hb dX8_entry_151 rfl (lv_at hl 1 rfl) ?_
              refine lv_bipush (v := (nI 6)) hx hb dX8_entry_152 (by decide) ?_
              refine call_x (va_runV (As := [.int (nI ek_), .int (nI 6)]) (rest := []) ⟨hx, hb, hml, hown, hts⟩ (kX8_en ln dg tq (m0 := m0) (ms := ms) (mw := mw) (mt := mt) (su := su) (pt := pt) (td := td) (wy := wy) (xs := xs) (xt := xt) (xa := xa) (s := s) (e := ek_) (f := 6) (he := (by omega)) (hf := (by omega)) H.size) (cwV 2 hts gX8_entry_X8_en rfl rfl rfl hdX8_en ⟨Nat.le_of_ble_eq_true rfl, Nat.le_of_ble_eq_true rfl⟩) (preVR hK hN hP [0, 1] rfl 0 rfl rfl [.int (nI ek_), .int (nI 6)]) rfl rfl hl.1 rfl (lv_room (Nat.le_of_ble_eq_true rfl)) dX8_entry_154 ⟨Nat.le_refl _, Nat.le_refl _⟩) hP hS hA (fun H locs hP hS => ?_)
              refine r_top (show (s (5 + 7 * ek_ + 6)) = (me s ek_ 6) from rfl) ?_
              exact hret (me s ek_ 6) (g23) H locs _ ls (by unfold etR; rw [if_pos ⟨hasN_n (by omega) (by omega), hasN_n (by omega) (by omega)⟩, cl_n (by omega), cl_n (by omega)]; rfl) rfl (hP.sub [0, 1, 2] rfl) (hD.sub [0, 1, 2] (by decide) rfl) hS dX8_entry_157
            · skip
              refine lv_tableIn (off := 103) (tgt := 158) hx hb dX8_entry_55 (by decide) (by decide) rfl (by decide) ?_
              refine lv_aload_n hx hb dX8_entry_158 rfl (lv_at hl 0 rfl) ?_
              refine lv_iload_n hx hb dX8_entry_159 rfl (lv_at hl 1 rfl) ?_
              refine call_x (va_runV (As := [.int (nI ek_)]) (rest := []) ⟨hx, hb, hml, hown, hts⟩ (kX8_depth ln dg tq (m0 := m0) (ms := ms) (mw := mw) (mt := mt) (su := su) (pt := pt) (td := td) (wy := wy) (xs := xs) (xt := xt) (xa := xa) (s := s) (hW := hW) (y := ek_) (hy := (by omega)) H.size) (cwV 1 hts gX8_entry_X8_depth rfl rfl rfl hdX8_depth ⟨Nat.le_of_ble_eq_true rfl, Nat.le_of_ble_eq_true rfl⟩) (preVR hK hN hP [0, 1] rfl 0 rfl rfl [.int (nI ek_)]) rfl rfl hl.1 rfl (lv_room (Nat.le_of_ble_eq_true rfl)) dX8_entry_160 ⟨Nat.le_refl _, Nat.le_refl _⟩) hP hS hA (fun H locs hP hS => ?_)
              exact hret (nI (dep s ek_)) (g23) H locs _ ls (by unfold etR; rw [if_pos ⟨hasN_n (by omega) (by omega), hasN_n (by omega) (by omega)⟩, cl_n (by omega), cl_n (by omega)]; rfl) rfl (hP.sub [0, 1, 2] rfl) (hD.sub [0, 1, 2] (by decide) rfl) hS dX8_entry_163
            · skip
              refine lv_tableIn (off := 109) (tgt := 164) hx hb dX8_entry_55 (by decide) (by decide) rfl (by decide) ?_
              refine lv_iload_n hx hb dX8_entry_164 rfl (lv_at hl 3 rfl) ?_
              exact hret (totI (bal s ek_) 6) (g23) H locs _ ls (by unfold etR; rw [if_pos ⟨hasN_n (by omega) (by omega), hasN_n (by omega) (by omega)⟩, cl_n (by omega), cl_n (by omega)]; rfl) rfl (hP.sub [0, 1, 2] rfl) (hD.sub [0, 1, 2] (by decide) rfl) hS dX8_entry_165
          · skip
            refine lv_iload_n hx hb dX8_entry_38 rfl (lv_at hl 3 rfl) ?_
            refine lv_aload_n hx hb dX8_entry_39 rfl (lv_at hl 0 rfl) ?_
            refine va_get (D := dg) (ci := 8) (v := .ref su) (C := RX8) (T := TX8) (N := 10) hx hb hts in8 hown hK hP 0 rfl rfl 6 (by decide) f20 (fun _ h9 => h9) rfl dX8_entry_40 ?_
            refine lv_iload hx hb dX8_entry_43 (lv_at hl 4 rfl) ?_
            refine r_iald_n hx hb hK hP 2 rfl (k := k_) (by omega) (by omega) dX8_entry_45 ?_
            refine lv_iadd hx hb dX8_entry_46 ?_
            refine lv_istore_n (lv' := [(3, .int ((totF g23 k_) + (g23 k_))), (0, .ref m0), (1, .int (nI ek_)), (2, .int (nI wk_)), (4, .int (nI k_))]) hx hb dX8_entry_47 rfl hl (by decide) rfl (fun ls hl => ?_)
            refine lv_iinc (v := (nI (k_ + 1))) (lv' := [(4, .int (nI (k_ + 1))), (3, .int ((totF g23 k_) + (g23 k_))), (0, .ref m0), (1, .int (nI ek_)), (2, .int (nI wk_))]) hx hb dX8_entry_48 hl (k := 4) rfl (nI_add _ _) (by decide) rfl (fun ls hl => ?_)
            refine lv_goto (tgt := 31) hx hb dX8_entry_51 (by decide) ?_
            exact ih31 (k_ + 1) H locs ls (by omega) (by omega) (hP.sub [0, 1, 2] rfl) (hD.sub [0, 1, 2] (by decide) rfl) hS (lv_sub hl [2, 3, 4, 1, 0] rfl)
      exact loop31 _ 0 H locs ls (by omega) (Nat.lt_succ_self _) (hP.sub [0, 1, 2] rfl) (hD.sub [0, 1, 2] (by decide) rfl) hS (lv_sub hl [2, 3, 4, 1, 0] rfl)
    · skip
      refine lv_ldc hx hb hown k84 dX8_entry_18 ?_
      exact hret (-100001) (f) H locs _ ls (by unfold etR; rw [if_neg (fun z => by have z2 := z.2; rw [wk_f (by omega) rfl c15] at z2; cases z2)]) rfl (hP.sub [0, 1, 2] rfl) (hD.sub [0, 1, 2] (by decide) rfl) hS dX8_entry_20
theorem hdX8_balance : yX8_balance.cls = RX8 ∧ yX8_balance.cls ≠ "java/lang/invoke/MethodHandle" ∧ yX8_balance.cls ≠ "java/lang/invoke/VarHandle" ∧ (parseMethodDescriptor yX8_balance.desc).map (fun d => d.parameters.length) = some 2 := by decide +kernel
set_option maxHeartbeats 4000000 in
set_option maxRecDepth 100000 in
theorem kX8_balance (ln : Launch) (dg : va_G) (tq : ClassId × ClassId) (m0 ms mw mt su pt td wy : Nat) (xs xt xa : Int32) (s f : Row) (hW : WF s) (a x : Int32) : MW ln yX8_balance wsX8_balance (rmm 3 67) dg tq [.ref m0, .int a, .int x] [(m0, .inr (8, [.ref ms, .ref mw, .int xs, .ref mt, .int xt, .int xa, .ref su, .ref pt, .ref td, .ref wy])), (ms, .inl (tq.1, 1445, .inl s)), (su, .inl (tq.1, 6, .inl f))] (fun (r : Int32) (u : Row) => r = (baR s a x)) (fun u => [(m0, .inr (8, [.ref ms, .ref mw, .int xs, .ref mt, .int xt, .int xa, .ref su, .ref pt, .ref td, .ref wy])), (ms, .inl (tq.1, 1445, .inl s)), (su, .inl (tq.1, 6, .inl u))]) := by
  refine MW.enter cX8_balance 3 .int (by decide) rfl rfl (Nat.le_of_ble_eq_true rfl) ?_
  intro pP eE sS mM aA bB mT cC QQ AA hA hAT hret H locs hP hD hS ls hl
  obtain ⟨hx, hb, hml, hown, hts, hK, hN⟩ := hAT
  have hown : sS.vm.findClass RX8 = some mM.cls := hown
  have hl : lv_has ls 3 [(0, .ref m0), (1, .int a), (2, .int x)] := hl
  have in8 : ∀ w ∈ u_ws RX8 TX8 10, w ∈ wsX8_balance := (fun _ h9 => List.mem_cons_of_mem _ (List.mem_append_right _ h9))
  have k84 := hts (.constant RX8 84 (-100001)) (List.mem_of_getElem? (i := 1) rfl)
  have f20 := hts (.fieldLink RX8 20 "OrphanChainModel" "sums" "[I") (List.mem_of_getElem? (i := 2) rfl)
  have hn60 := hW.n60
  have hb10 := hW.b10
  have hs8 := hW.s8
  have hhn := hW.hn
  refine lv_iload_n hx hb dX8_balance_0 rfl (lv_at hl 1 rfl) ?_
  refine lv_iconst (v := (nI 0)) hx hb dX8_balance_1 (by decide) ?_
  refine lv_iconst (v := (nI 5)) hx hb dX8_balance_2 (by decide) ?_
  refine call_x (va_runS (As := [.int a, .int (nI 0), .int (nI 5)]) (rest := []) ⟨hx, hb, hml, hown, hts⟩ (kX8_in ln dg tq (v := a) (lo := (nI 0)) (hi := (nI 5)) H.size) (va_cwS 3 hts gX8_balance_X8_in rfl rfl rfl hdX8_in.2 ⟨Nat.le_of_ble_eq_true rfl, Nat.le_of_ble_eq_true rfl⟩) (preS0 hK hN [.int a, .int (nI 0), .int (nI 5)]) rfl rfl hl.1 rfl (lv_room (Nat.le_of_ble_eq_true rfl)) dX8_balance_3 ⟨Nat.le_refl _, Nat.le_refl _⟩) hP hS hA (fun H locs hP hS => ?_)
  refine r_if_eq_b (tgt := 17) hx hb dX8_balance_6 (by decide) (fun c6 => ?_) (fun c6 => ?_)
  · skip
    refine lv_ldc hx hb hown k84 dX8_balance_17 ?_
    exact hret (-100001) (f) H locs _ ls (by unfold baR; rw [if_neg (fun z => by rw [c6] at z; cases z.1)]) rfl (hP.sub [0, 1, 2] rfl) (hD.sub [0, 1, 2] (by decide) rfl) hS dX8_balance_19
  · skip
    refine lv_aload_n hx hb dX8_balance_9 rfl (lv_at hl 0 rfl) ?_
    refine lv_iload_n hx hb dX8_balance_10 rfl (lv_at hl 2 rfl) ?_
    refine call_x (va_runV (As := [.int x]) (rest := []) ⟨hx, hb, hml, hown, hts⟩ (kX8_isEntry ln dg tq (m0 := m0) (ms := ms) (mw := mw) (mt := mt) (su := su) (pt := pt) (td := td) (wy := wy) (xs := xs) (xt := xt) (xa := xa) (s := s) (hW := hW) (x := x) H.size) (cwV 1 hts gX8_balance_X8_isEntry rfl rfl rfl hdX8_isEntry ⟨Nat.le_of_ble_eq_true rfl, Nat.le_of_ble_eq_true rfl⟩) (preVR hK hN hP [0, 1] rfl 0 rfl rfl [.int x]) rfl rfl hl.1 rfl (lv_room (Nat.le_of_ble_eq_true rfl)) dX8_balance_11 ⟨Nat.le_refl _, Nat.le_refl _⟩) hP hS hA (fun H locs hP hS => ?_)
    refine r_if_ne_b (tgt := 20) hx hb dX8_balance_14 (by decide) (fun c14 => ?_) (fun c14 => ?_)
    · skip
      obtain ⟨ak_, ha1, ha2, rfl⟩ := inR_t (by omega) (by omega) c6
      obtain ⟨ek_, hek_, rfl⟩ := hasN_t c14
      refine lv_aload_n hx hb dX8_balance_20 rfl (lv_at hl 0 rfl) ?_
      refine lv_iload_n hx hb dX8_balance_21 rfl (lv_at hl 2 rfl) ?_
      refine call_v (wr := []) (va_runV (As := [.int (nI ek_)]) (rest := []) ⟨hx, hb, hml, hown, hts⟩ (kX8_balances ln dg tq (m0 := m0) (ms := ms) (mw := mw) (mt := mt) (su := su) (pt := pt) (td := td) (wy := wy) (xs := xs) (xt := xt) (xa := xa) (s := s) (f := f) (hW := hW) (y := ek_) (hy := (by omega)) H.size) (cwV 1 hts gX8_balance_X8_balances rfl rfl rfl hdX8_balances ⟨Nat.le_of_ble_eq_true rfl, Nat.le_of_ble_eq_true rfl⟩) (preVB hK hN hP hD [0, 1, 2] rfl rfl rfl 0 rfl rfl [.int (nI ek_)]) rfl rfl hl.1 rfl (lv_room (Nat.le_of_ble_eq_true rfl)) dX8_balance_22 ⟨Nat.le_refl _, Nat.le_refl _⟩) hP hD hS hA [0, 1, 2] [] rfl rfl (by decide) (by decide) (fun u22 H locs hw22 hP hD hS => ?_)
      obtain ⟨g22, rfl⟩ : ∃ z, z = u22 := ⟨_, rfl⟩
      have hP : va_P dg vwCl [(m0, .inr (8, [.ref ms, .ref mw, .int xs, .ref mt, .int xt, .int xa, .ref su, .ref pt, .ref td, .ref wy])), (ms, .inl (tq.1, 1445, .inl s)), (su, .inl (tq.1, 6, .inl g22))] H := hP
      have hD : va_D AA [(m0, .inr (8, [.ref ms, .ref mw, .int xs, .ref mt, .int xt, .int xa, .ref su, .ref pt, .ref td, .ref wy])), (ms, .inl (tq.1, 1445, .inl s)), (su, .inl (tq.1, 6, .inl g22))] := hD
      refine lv_aload_n hx hb dX8_balance_25 rfl (lv_at hl 0 rfl) ?_
      refine va_get (D := dg) (ci := 8) (v := .ref su) (C := RX8) (T := TX8) (N := 10) hx hb hts in8 hown hK hP 0 rfl rfl 6 (by decide) f20 (fun _ h9 => h9) rfl dX8_balance_26 ?_
      refine lv_iload_n hx hb dX8_balance_29 rfl (lv_at hl 1 rfl) ?_
      refine r_iald_n hx hb hK hP 2 rfl (k := ak_) (by omega) (by omega) dX8_balance_30 ?_
      exact hret (g22 ak_) (g22) H locs _ ls (by unfold baR; rw [if_pos ⟨c6, c14⟩, cl_n (by omega), cl_n (by omega)]; exact hw22 _ (by omega)) rfl (hP.sub [0, 1, 2] rfl) (hD.sub [0, 1, 2] (by decide) rfl) hS dX8_balance_31
    · skip
      refine lv_ldc hx hb hown k84 dX8_balance_17 ?_
      exact hret (-100001) (f) H locs _ ls (by unfold baR; rw [if_neg (fun z => by rw [c14] at z; cases z.2)]) rfl (hP.sub [0, 1, 2] rfl) (hD.sub [0, 1, 2] (by decide) rfl) hS dX8_balance_19
theorem hdX8_onChain : yX8_onChain.cls = RX8 ∧ yX8_onChain.cls ≠ "java/lang/invoke/MethodHandle" ∧ yX8_onChain.cls ≠ "java/lang/invoke/VarHandle" ∧ (parseMethodDescriptor yX8_onChain.desc).map (fun d => d.parameters.length) = some 1 := by decide +kernel
set_option maxHeartbeats 4000000 in
set_option maxRecDepth 100000 in
theorem kX8_onChain (ln : Launch) (dg : va_G) (tq : ClassId × ClassId) (m0 ms mw mt su pt td wy : Nat) (xs xt xa : Int32) (s : Row) (hW : WF s) (x : Int32) : MR ln yX8_onChain wsX8_onChain (rmm 2 46) dg tq [.ref m0, .int x] [(m0, .inr (8, [.ref ms, .ref mw, .int xs, .ref mt, .int xt, .int xa, .ref su, .ref pt, .ref td, .ref wy])), (ms, .inl (tq.1, 1445, .inl s))] (fun r => r = (ocR s x)) := by
  refine MR.enter cX8_onChain 3 .int (by decide) rfl rfl (Nat.le_of_ble_eq_true rfl) ?_
  intro pP eE sS mM aA bB mT cC QQ AA hA hAT hret H locs hP hS ls hl
  obtain ⟨hx, hb, hml, hown, hts, hK, hN⟩ := hAT
  have hown : sS.vm.findClass RX8 = some mM.cls := hown
  have hl : lv_has ls 3 [(0, .ref m0), (1, .int x)] := hl
  have in8 : ∀ w ∈ u_ws RX8 TX8 10, w ∈ wsX8_onChain := (fun _ h9 => List.mem_cons_of_mem _ (List.mem_append_right _ h9))
  have f7 := hts (.fieldLink RX8 7 "OrphanChainModel" "s" "[I") (List.mem_of_getElem? (i := 2) rfl)
  have k32 := hts (.constant RX8 32 (-100009)) (List.mem_of_getElem? (i := 3) rfl)
  have k84 := hts (.constant RX8 84 (-100001)) (List.mem_of_getElem? (i := 1) rfl)
  have hn60 := hW.n60
  have hb10 := hW.b10
  have hs8 := hW.s8
  have hhn := hW.hn
  have hdl := dep_le hW _ hW.hn
  refine lv_iload_n hx hb dX8_onChain_0 rfl (lv_at hl 1 rfl) ?_
  refine r_if_ge (tgt := 7) hx hb rfl dX8_onChain_1 (by decide) (fun c1 => ?_) (fun c1 => ?_)
  · skip
    refine lv_aload_n hx hb dX8_onChain_7 rfl (lv_at hl 0 rfl) ?_
    refine lv_aload_n hx hb dX8_onChain_8 rfl (lv_at hl 0 rfl) ?_
    refine va_get (D := dg) (ci := 8) (v := .ref ms) (C := RX8) (T := TX8) (N := 10) hx hb hts in8 hown hK hP 0 rfl rfl 0 (by decide) f7 (fun _ h9 => h9) rfl dX8_onChain_9 ?_
    refine lv_iconst (v := (nI 1)) hx hb dX8_onChain_12 (by decide) ?_
    refine r_iald_n hx hb hK hP 1 rfl (k := 1) (by omega) (by omega) dX8_onChain_13 ?_
    refine r_top (show (s 1) = (nI (hE s)) from (hW.h)) ?_
    refine call_x (va_runV (As := [.int (nI (hE s))]) (rest := []) ⟨hx, hb, hml, hown, hts⟩ (kX8_depth ln dg tq (m0 := m0) (ms := ms) (mw := mw) (mt := mt) (su := su) (pt := pt) (td := td) (wy := wy) (xs := xs) (xt := xt) (xa := xa) (s := s) (hW := hW) (y := hE s) (hy := (by omega)) H.size) (cwV 1 hts gX8_onChain_X8_depth rfl rfl rfl hdX8_depth ⟨Nat.le_of_ble_eq_true rfl, Nat.le_of_ble_eq_true rfl⟩) (preVR hK hN hP [0, 1] rfl 0 rfl rfl [.int (nI (hE s))]) rfl rfl hl.1 rfl (lv_room (Nat.le_of_ble_eq_true rfl)) dX8_onChain_14 ⟨Nat.le_refl _, Nat.le_refl _⟩) hP hS hA (fun H locs hP hS => ?_)
    refine lv_istore_n (lv' := [(2, .int (nI (dep s (hE s)))), (0, .ref m0), (1, .int x)]) hx hb dX8_onChain_17 rfl hl (by decide) rfl (fun ls hl => ?_)
    refine lv_iload_n hx hb dX8_onChain_18 rfl (lv_at hl 2 rfl) ?_
    refine lv_iload_n hx hb dX8_onChain_19 rfl (lv_at hl 0 rfl) ?_
    refine r_icmp_ge (tgt := 41) hx hb rfl (nI_tI (by omega)) dX8_onChain_20 (by decide) (fun c20 => ?_) (fun c20 => ?_)
    · skip
      refine lv_ldc hx hb hown k32 dX8_onChain_41 ?_
      exact hret (-100009) H locs _ ls (by unfold ocR; rw [if_neg (show ¬ x.toInt < 0 by omega), if_neg (fun z => by have z := (of_decide_eq_true z).2; omega)]) rfl hS dX8_onChain_43
    · skip
      obtain ⟨xk_, hxk, rfl⟩ := tI_natlt c1 c20
      refine lv_aload_n hx hb dX8_onChain_23 rfl (lv_at hl 1 rfl) ?_
      refine lv_aload_n hx hb dX8_onChain_24 rfl (lv_at hl 1 rfl) ?_
      refine va_get (D := dg) (ci := 8) (v := .ref ms) (C := RX8) (T := TX8) (N := 10) hx hb hts in8 hown hK hP 0 rfl rfl 0 (by decide) f7 (fun _ h9 => h9) rfl dX8_onChain_25 ?_
      refine lv_iconst (v := (nI 1)) hx hb dX8_onChain_28 (by decide) ?_
      refine r_iald_n hx hb hK hP 1 rfl (k := 1) (by omega) (by omega) dX8_onChain_29 ?_
      refine r_top (show (s 1) = (nI (hE s)) from (hW.h)) ?_
      refine lv_iload_n hx hb dX8_onChain_30 rfl (lv_at hl 0 rfl) ?_
      refine lv_iconst (v := (nI 1)) hx hb dX8_onChain_31 (by decide) ?_
      refine r_isub_n hx hb (by omega) dX8_onChain_32 ?_
      refine lv_iload_n hx hb dX8_onChain_33 rfl (lv_at hl 2 rfl) ?_
      refine r_isub_n hx hb (by omega) dX8_onChain_34 ?_
      refine call_x (va_runV (As := [.int (nI (hE s)), .int (nI (((dep s (hE s)) - 1) - xk_))]) (rest := []) ⟨hx, hb, hml, hown, hts⟩ (kX8_above ln dg tq (m0 := m0) (ms := ms) (mw := mw) (mt := mt) (su := su) (pt := pt) (td := td) (wy := wy) (xs := xs) (xt := xt) (xa := xa) (s := s) (hW := hW) (y := hE s) (k := ((dep s (hE s)) - 1) - xk_) (hy := (by omega)) (hk := (by omega)) H.size) (cwV 2 hts gX8_onChain_X8_above rfl rfl rfl hdX8_above ⟨Nat.le_of_ble_eq_true rfl, Nat.le_of_ble_eq_true rfl⟩) (preVR hK hN hP [0, 1] rfl 0 rfl rfl [.int (nI (hE s)), .int (nI (((dep s (hE s)) - 1) - xk_))]) rfl rfl hl.1 rfl (lv_room (Nat.le_of_ble_eq_true rfl)) dX8_onChain_35 ⟨Nat.le_refl _, Nat.le_refl _⟩) hP hS hA (fun H locs hP hS => ?_)
      refine lv_goto (tgt := 43) hx hb dX8_onChain_38 (by decide) ?_
      exact hret (nI (up s (hE s) (((dep s (hE s)) - 1) - xk_))) H locs _ ls (by unfold ocR; rw [if_neg (by rw [nI_tI (by omega)]; omega), if_pos (hasN_n hxk (by omega)), cl_n (by omega)]; rfl) rfl hS dX8_onChain_43
  · skip
    refine lv_ldc hx hb hown k84 dX8_onChain_4 ?_
    exact hret (-100001) H locs _ ls (by unfold ocR; rw [if_pos (by omega)]) rfl hS dX8_onChain_6
theorem hdX8_branch : yX8_branch.cls = RX8 ∧ yX8_branch.cls ≠ "java/lang/invoke/MethodHandle" ∧ yX8_branch.cls ≠ "java/lang/invoke/VarHandle" ∧ (parseMethodDescriptor yX8_branch.desc).map (fun d => d.parameters.length) = some 2 := by decide +kernel
set_option maxHeartbeats 4000000 in
set_option maxRecDepth 100000 in
theorem kX8_branch (ln : Launch) (dg : va_G) (tq : ClassId × ClassId) (m0 ms mw mt su pt td wy : Nat) (xs xt xa : Int32) (s : Row) (hW : WF s) (x w : Int32) : MR ln yX8_branch wsX8_branch (rmm 3 68) dg tq [.ref m0, .int x, .int w] [(m0, .inr (8, [.ref ms, .ref mw, .int xs, .ref mt, .int xt, .int xa, .ref su, .ref pt, .ref td, .ref wy])), (ms, .inl (tq.1, 1445, .inl s))] (fun r => r = (brR s x w)) := by
  refine MR.enter cX8_branch 3 .int (by decide) rfl rfl (Nat.le_of_ble_eq_true rfl) ?_
  intro pP eE sS mM aA bB mT cC QQ AA hA hAT hret H locs hP hS ls hl
  obtain ⟨hx, hb, hml, hown, hts, hK, hN⟩ := hAT
  have hown : sS.vm.findClass RX8 = some mM.cls := hown
  have hl : lv_has ls 3 [(0, .ref m0), (1, .int x), (2, .int w)] := hl
  have in8 : ∀ w ∈ u_ws RX8 TX8 10, w ∈ wsX8_branch := (fun _ h9 => List.mem_cons_of_mem _ (List.mem_append_right _ h9))
  have k84 := hts (.constant RX8 84 (-100001)) (List.mem_of_getElem? (i := 1) rfl)
  have f7 := hts (.fieldLink RX8 7 "OrphanChainModel" "s" "[I") (List.mem_of_getElem? (i := 2) rfl)
  have hn60 := hW.n60
  have hb10 := hW.b10
  have hs8 := hW.s8
  have hhn := hW.hn
  refine lv_aload_n hx hb dX8_branch_0 rfl (lv_at hl 0 rfl) ?_
  refine lv_iload_n hx hb dX8_branch_1 rfl (lv_at hl 1 rfl) ?_
  refine call_x (va_runV (As := [.int x]) (rest := []) ⟨hx, hb, hml, hown, hts⟩ (kX8_isBranch ln dg tq (m0 := m0) (ms := ms) (mw := mw) (mt := mt) (su := su) (pt := pt) (td := td) (wy := wy) (xs := xs) (xt := xt) (xa := xa) (s := s) (hW := hW) (x := x) H.size) (cwV 1 hts gX8_branch_X8_isBranch rfl rfl rfl hdX8_isBranch ⟨Nat.le_of_ble_eq_true rfl, Nat.le_of_ble_eq_true rfl⟩) (preVR hK hN hP [0, 1] rfl 0 rfl rfl [.int x]) rfl rfl hl.1 rfl (lv_room (Nat.le_of_ble_eq_true rfl)) dX8_branch_2 ⟨Nat.le_refl _, Nat.le_refl _⟩) hP hS hA (fun H locs hP hS => ?_)
  refine r_if_eq_b (tgt := 17) hx hb dX8_branch_5 (by decide) (fun c5 => ?_) (fun c5 => ?_)
  · skip
    refine lv_ldc hx hb hown k84 dX8_branch_17 ?_
    exact hret (-100001) H locs _ ls (by rw [brR, if_neg (fun z => by rw [c5] at z; cases z.1)]) rfl hS dX8_branch_19
  · skip
    refine lv_iload_n hx hb dX8_branch_8 rfl (lv_at hl 2 rfl) ?_
    refine lv_iconst (v := (nI 0)) hx hb dX8_branch_9 (by decide) ?_
    refine lv_iconst (v := (nI 5)) hx hb dX8_branch_10 (by decide) ?_
    refine call_x (va_runS (As := [.int w, .int (nI 0), .int (nI 5)]) (rest := []) ⟨hx, hb, hml, hown, hts⟩ (kX8_in ln dg tq (v := w) (lo := (nI 0)) (hi := (nI 5)) H.size) (va_cwS 3 hts gX8_branch_X8_in rfl rfl rfl hdX8_in.2 ⟨Nat.le_of_ble_eq_true rfl, Nat.le_of_ble_eq_true rfl⟩) (preS0 hK hN [.int w, .int (nI 0), .int (nI 5)]) rfl rfl hl.1 rfl (lv_room (Nat.le_of_ble_eq_true rfl)) dX8_branch_11 ⟨Nat.le_refl _, Nat.le_refl _⟩) hP hS hA (fun H locs hP hS => ?_)
    refine r_if_ne_b (tgt := 20) hx hb dX8_branch_14 (by decide) (fun c14 => ?_) (fun c14 => ?_)
    · skip
      obtain ⟨bk_, hbk_, rfl⟩ := hasN_t c5
      have hlf := hW.lfl hbk_
      have hmn1 := hW.mn1 hbk_
      obtain ⟨wk_, hw1, hw2, rfl⟩ := inR_t (a := 0) (b := 5) (by omega) (by omega) c14
      refine lv_iload_n hx hb dX8_branch_20 rfl (lv_at hl 2 rfl) ?_
      rcases (show wk_ = 0 ∨ wk_ = 1 ∨ wk_ = 2 ∨ wk_ = 3 ∨ wk_ = 4 ∨ wk_ = 5 by omega) with rfl | rfl | rfl | rfl | rfl | rfl
      · skip
        refine lv_tableOut (tgt := 102) hx hb dX8_branch_21 (by decide) (by decide) ?_
        refine lv_aload_n hx hb dX8_branch_102 rfl (lv_at hl 0 rfl) ?_
        refine lv_iload_n hx hb dX8_branch_103 rfl (lv_at hl 1 rfl) ?_
        refine lv_iload_n hx hb dX8_branch_104 rfl (lv_at hl 2 rfl) ?_
        refine call_x (va_runV (As := [.int (nI bk_), .int (nI 0)]) (rest := []) ⟨hx, hb, hml, hown, hts⟩ (kX8_br ln dg tq (m0 := m0) (ms := ms) (mw := mw) (mt := mt) (su := su) (pt := pt) (td := td) (wy := wy) (xs := xs) (xt := xt) (xa := xa) (s := s) (b := bk_) (f := 0) (hb0 := (by omega)) (hf := (by omega)) H.size) (cwV 2 hts gX8_branch_X8_br rfl rfl rfl hdX8_br ⟨Nat.le_of_ble_eq_true rfl, Nat.le_of_ble_eq_true rfl⟩) (preVR hK hN hP [0, 1] rfl 0 rfl rfl [.int (nI bk_), .int (nI 0)]) rfl rfl hl.1 rfl (lv_room (Nat.le_of_ble_eq_true rfl)) dX8_branch_105 ⟨Nat.le_refl _, Nat.le_refl _⟩) hP hS hA (fun H locs hP hS => ?_)
        refine r_top (show (s (425 + 4 * bk_ + 0)) = (nI (lf s bk_)) from (hW.br (b := bk_) (by omega)).1) ?_
        exact hret (nI (lf s bk_)) H locs _ ls (by rw [brR, if_pos ⟨hasN_n (by omega) (by omega), hasN_n (by omega) (by omega)⟩, cl_n (by omega), cl_n (by omega)]; rfl) rfl hS dX8_branch_108
      · skip
        refine lv_tableOut (tgt := 102) hx hb dX8_branch_21 (by decide) (by decide) ?_
        refine lv_aload_n hx hb dX8_branch_102 rfl (lv_at hl 0 rfl) ?_
        refine lv_iload_n hx hb dX8_branch_103 rfl (lv_at hl 1 rfl) ?_
        refine lv_iload_n hx hb dX8_branch_104 rfl (lv_at hl 2 rfl) ?_
        refine call_x (va_runV (As := [.int (nI bk_), .int (nI 1)]) (rest := []) ⟨hx, hb, hml, hown, hts⟩ (kX8_br ln dg tq (m0 := m0) (ms := ms) (mw := mw) (mt := mt) (su := su) (pt := pt) (td := td) (wy := wy) (xs := xs) (xt := xt) (xa := xa) (s := s) (b := bk_) (f := 1) (hb0 := (by omega)) (hf := (by omega)) H.size) (cwV 2 hts gX8_branch_X8_br rfl rfl rfl hdX8_br ⟨Nat.le_of_ble_eq_true rfl, Nat.le_of_ble_eq_true rfl⟩) (preVR hK hN hP [0, 1] rfl 0 rfl rfl [.int (nI bk_), .int (nI 1)]) rfl rfl hl.1 rfl (lv_room (Nat.le_of_ble_eq_true rfl)) dX8_branch_105 ⟨Nat.le_refl _, Nat.le_refl _⟩) hP hS hA (fun H locs hP hS => ?_)
        refine r_top (show (s (425 + 4 * bk_ + 1)) = (nI (mn s bk_)) from (hW.br (b := bk_) (by omega)).2.2.1) ?_
        exact hret (nI (mn s bk_)) H locs _ ls (by rw [brR, if_pos ⟨hasN_n (by omega) (by omega), hasN_n (by omega) (by omega)⟩, cl_n (by omega), cl_n (by omega)]; rfl) rfl hS dX8_branch_108
      · skip
        refine lv_tableIn (off := 31) (tgt := 52) hx hb dX8_branch_21 (by decide) (by decide) rfl (by decide) ?_
        refine lv_aload_n hx hb dX8_branch_52 rfl (lv_at hl 0 rfl) ?_
        refine lv_iload_n hx hb dX8_branch_53 rfl (lv_at hl 1 rfl) ?_
        refine lv_iconst (v := (nI 0)) hx hb dX8_branch_54 (by decide) ?_
        refine call_x (va_runV (As := [.int (nI bk_), .int (nI 0)]) (rest := []) ⟨hx, hb, hml, hown, hts⟩ (kX8_ofBranch ln dg tq (m0 := m0) (ms := ms) (mw := mw) (mt := mt) (su := su) (pt := pt) (td := td) (wy := wy) (xs := xs) (xt := xt) (xa := xa) (s := s) (hW := hW) (b := bk_) (k := 0) (hb0 := (by omega)) (hk := (by omega)) H.size) (cwV 2 hts gX8_branch_X8_ofBranch rfl rfl rfl hdX8_ofBranch ⟨Nat.le_of_ble_eq_true rfl, Nat.le_of_ble_eq_true rfl⟩) (preVR hK hN hP [0, 1] rfl 0 rfl rfl [.int (nI bk_), .int (nI 0)]) rfl rfl hl.1 rfl (lv_room (Nat.le_of_ble_eq_true rfl)) dX8_branch_55 ⟨Nat.le_refl _, Nat.le_refl _⟩) hP hS hA (fun H locs hP hS => ?_)
        exact hret (nI (brE s bk_ 0)) H locs _ ls (by rw [brR, if_pos ⟨hasN_n (by omega) (by omega), hasN_n (by omega) (by omega)⟩, cl_n (by omega), cl_n (by omega)]; rfl) rfl hS dX8_branch_58
      · skip
        refine lv_tableIn (off := 38) (tgt := 59) hx hb dX8_branch_21 (by decide) (by decide) rfl (by decide) ?_
        refine lv_aload_n hx hb dX8_branch_59 rfl (lv_at hl 0 rfl) ?_
        refine lv_iload_n hx hb dX8_branch_60 rfl (lv_at hl 1 rfl) ?_
        refine lv_iconst (v := (nI 2)) hx hb dX8_branch_61 (by decide) ?_
        refine call_x (va_runV (As := [.int (nI bk_), .int (nI 2)]) (rest := []) ⟨hx, hb, hml, hown, hts⟩ (kX8_br ln dg tq (m0 := m0) (ms := ms) (mw := mw) (mt := mt) (su := su) (pt := pt) (td := td) (wy := wy) (xs := xs) (xt := xt) (xa := xa) (s := s) (b := bk_) (f := 2) (hb0 := (by omega)) (hf := (by omega)) H.size) (cwV 2 hts gX8_branch_X8_br rfl rfl rfl hdX8_br ⟨Nat.le_of_ble_eq_true rfl, Nat.le_of_ble_eq_true rfl⟩) (preVR hK hN hP [0, 1] rfl 0 rfl rfl [.int (nI bk_), .int (nI 2)]) rfl rfl hl.1 rfl (lv_room (Nat.le_of_ble_eq_true rfl)) dX8_branch_62 ⟨Nat.le_refl _, Nat.le_refl _⟩) hP hS hA (fun H locs hP hS => ?_)
        refine r_top (show (s (425 + 4 * bk_ + 2)) = (mb s bk_ 2) from rfl) ?_
        exact hret (mb s bk_ 2) H locs _ ls (by rw [brR, if_pos ⟨hasN_n (by omega) (by omega), hasN_n (by omega) (by omega)⟩, cl_n (by omega), cl_n (by omega)]; rfl) rfl hS dX8_branch_65
      · skip
        refine lv_tableIn (off := 45) (tgt := 66) hx hb dX8_branch_21 (by decide) (by decide) rfl (by decide) ?_
        refine lv_aload_n hx hb dX8_branch_66 rfl (lv_at hl 0 rfl) ?_
        refine lv_iload_n hx hb dX8_branch_67 rfl (lv_at hl 1 rfl) ?_
        refine call_x (va_runV (As := [.int (nI bk_)]) (rest := []) ⟨hx, hb, hml, hown, hts⟩ (kX8_isLoud ln dg tq (m0 := m0) (ms := ms) (mw := mw) (mt := mt) (su := su) (pt := pt) (td := td) (wy := wy) (xs := xs) (xt := xt) (xa := xa) (s := s) (b := bk_) (hb0 := (by omega)) H.size) (cwV 1 hts gX8_branch_X8_isLoud rfl rfl rfl hdX8_isLoud ⟨Nat.le_of_ble_eq_true rfl, Nat.le_of_ble_eq_true rfl⟩) (preVR hK hN hP [0, 1] rfl 0 rfl rfl [.int (nI bk_)]) rfl rfl hl.1 rfl (lv_room (Nat.le_of_ble_eq_true rfl)) dX8_branch_68 ⟨Nat.le_refl _, Nat.le_refl _⟩) hP hS hA (fun H locs hP hS => ?_)
        refine r_if_eq_b (tgt := 78) hx hb dX8_branch_71 (by decide) (fun c71 => ?_) (fun c71 => ?_)
        · skip
          refine lv_aload_n hx hb dX8_branch_78 rfl (lv_at hl 0 rfl) ?_
          refine lv_iload_n hx hb dX8_branch_79 rfl (lv_at hl 1 rfl) ?_
          refine lv_iconst (v := (nI 3)) hx hb dX8_branch_80 (by decide) ?_
          refine call_x (va_runV (As := [.int (nI bk_), .int (nI 3)]) (rest := []) ⟨hx, hb, hml, hown, hts⟩ (kX8_br ln dg tq (m0 := m0) (ms := ms) (mw := mw) (mt := mt) (su := su) (pt := pt) (td := td) (wy := wy) (xs := xs) (xt := xt) (xa := xa) (s := s) (b := bk_) (f := 3) (hb0 := (by omega)) (hf := (by omega)) H.size) (cwV 2 hts gX8_branch_X8_br rfl rfl rfl hdX8_br ⟨Nat.le_of_ble_eq_true rfl, Nat.le_of_ble_eq_true rfl⟩) (preVR hK hN hP [0, 1] rfl 0 rfl rfl [.int (nI bk_), .int (nI 3)]) rfl rfl hl.1 rfl (lv_room (Nat.le_of_ble_eq_true rfl)) dX8_branch_81 ⟨Nat.le_refl _, Nat.le_refl _⟩) hP hS hA (fun H locs hP hS => ?_)
          refine r_top (show (s (425 + 4 * bk_ + 3)) = (mb s bk_ 3) from rfl) ?_
          exact hret (mb s bk_ 3) H locs _ ls (by rw [brR, if_pos ⟨hasN_n (by omega) (by omega), hasN_n (by omega) (by omega)⟩, cl_n (by omega), cl_n (by omega)]; exact (by show _ = if loudB s bk_ = true then _ else _; rw [c71]; rfl)) rfl hS dX8_branch_84
        · skip
          refine lv_iconst (v := (nI 1)) hx hb dX8_branch_74 (by decide) ?_
          refine lv_goto (tgt := 84) hx hb dX8_branch_75 (by decide) ?_
          exact hret (nI 1) H locs _ ls (by rw [brR, if_pos ⟨hasN_n (by omega) (by omega), hasN_n (by omega) (by omega)⟩, cl_n (by omega), cl_n (by omega)]; exact (by show _ = if loudB s bk_ = true then _ else _; rw [c71]; rfl)) rfl hS dX8_branch_84
      · skip
        refine lv_tableIn (off := 64) (tgt := 85) hx hb dX8_branch_21 (by decide) (by decide) rfl (by decide) ?_
        refine lv_aload_n hx hb dX8_branch_85 rfl (lv_at hl 0 rfl) ?_
        refine lv_aload_n hx hb dX8_branch_86 rfl (lv_at hl 0 rfl) ?_
        refine lv_iload_n hx hb dX8_branch_87 rfl (lv_at hl 1 rfl) ?_
        refine lv_iconst (v := (nI 0)) hx hb dX8_branch_88 (by decide) ?_
        refine call_x (va_runV (As := [.int (nI bk_), .int (nI 0)]) (rest := [.ref m0]) ⟨hx, hb, hml, hown, hts⟩ (kX8_br ln dg tq (m0 := m0) (ms := ms) (mw := mw) (mt := mt) (su := su) (pt := pt) (td := td) (wy := wy) (xs := xs) (xt := xt) (xa := xa) (s := s) (b := bk_) (f := 0) (hb0 := (by omega)) (hf := (by omega)) H.size) (cwV 2 hts gX8_branch_X8_br rfl rfl rfl hdX8_br ⟨Nat.le_of_ble_eq_true rfl, Nat.le_of_ble_eq_true rfl⟩) (preVR hK hN hP [0, 1] rfl 0 rfl rfl [.int (nI bk_), .int (nI 0)]) rfl rfl hl.1 rfl (lv_room (Nat.le_of_ble_eq_true rfl)) dX8_branch_89 ⟨Nat.le_refl _, Nat.le_refl _⟩) hP hS hA (fun H locs hP hS => ?_)
        refine r_top (show (s (425 + 4 * bk_ + 0)) = (nI (lf s bk_)) from (hW.br (b := bk_) (by omega)).1) ?_
        refine lv_aload_n hx hb dX8_branch_92 rfl (lv_at hl 0 rfl) ?_
        refine va_get (D := dg) (ci := 8) (v := .ref ms) (C := RX8) (T := TX8) (N := 10) hx hb hts in8 hown hK hP 0 rfl rfl 0 (by decide) f7 (fun _ h9 => h9) rfl dX8_branch_93 ?_
        refine lv_iconst (v := (nI 1)) hx hb dX8_branch_96 (by decide) ?_
        refine r_iald_n hx hb hK hP 1 rfl (k := 1) (by omega) (by omega) dX8_branch_97 ?_
        refine r_top (show (s 1) = (nI (hE s)) from (hW.h)) ?_
        refine call_x (va_runV (As := [.int (nI (lf s bk_)), .int (nI (hE s))]) (rest := []) ⟨hx, hb, hml, hown, hts⟩ (kX8_meet ln dg tq (m0 := m0) (ms := ms) (mw := mw) (mt := mt) (su := su) (pt := pt) (td := td) (wy := wy) (xs := xs) (xt := xt) (xa := xa) (s := s) (hW := hW) (x := lf s bk_) (y := hE s) (hx := (by omega)) (hy := (by omega)) H.size) (cwV 2 hts gX8_branch_X8_meet rfl rfl rfl hdX8_meet ⟨Nat.le_of_ble_eq_true rfl, Nat.le_of_ble_eq_true rfl⟩) (preVR hK hN hP [0, 1] rfl 0 rfl rfl [.int (nI (lf s bk_)), .int (nI (hE s))]) rfl rfl hl.1 rfl (lv_room (Nat.le_of_ble_eq_true rfl)) dX8_branch_98 ⟨Nat.le_refl _, Nat.le_refl _⟩) hP hS hA (fun H locs hP hS => ?_)
        exact hret (nI (meet s (lf s bk_) (hE s))) H locs _ ls (by rw [brR, if_pos ⟨hasN_n (by omega) (by omega), hasN_n (by omega) (by omega)⟩, cl_n (by omega), cl_n (by omega)]; rfl) rfl hS dX8_branch_101
    · skip
      refine lv_ldc hx hb hown k84 dX8_branch_17 ?_
      exact hret (-100001) H locs _ ls (by rw [brR, if_neg (fun z => by have z2 := z.2; rw [wk_f (by omega) rfl c14] at z2; cases z2)]) rfl hS dX8_branch_19
theorem hdX8_sealed : yX8_sealed.cls = RX8 ∧ yX8_sealed.cls ≠ "java/lang/invoke/MethodHandle" ∧ yX8_sealed.cls ≠ "java/lang/invoke/VarHandle" ∧ (parseMethodDescriptor yX8_sealed.desc).map (fun d => d.parameters.length) = some 2 := by decide +kernel
set_option maxHeartbeats 4000000 in
set_option maxRecDepth 100000 in
theorem kX8_sealed (ln : Launch) (dg : va_G) (tq : ClassId × ClassId) (m0 ms mw mt su pt td wy : Nat) (xs xt xa : Int32) (s : Row) (hW : WF s) (x w : Int32) : MR ln yX8_sealed wsX8_sealed (rmm 2 43) dg tq [.ref m0, .int x, .int w] [(m0, .inr (8, [.ref ms, .ref mw, .int xs, .ref mt, .int xt, .int xa, .ref su, .ref pt, .ref td, .ref wy])), (ms, .inl (tq.1, 1445, .inl s))] (fun r => r = (sdR s x w)) := by
  refine MR.enter cX8_sealed 3 .int (by decide) rfl rfl (Nat.le_of_ble_eq_true rfl) ?_
  intro pP eE sS mM aA bB mT cC QQ AA hA hAT hret H locs hP hS ls hl
  obtain ⟨hx, hb, hml, hown, hts, hK, hN⟩ := hAT
  have hown : sS.vm.findClass RX8 = some mM.cls := hown
  have hl : lv_has ls 3 [(0, .ref m0), (1, .int x), (2, .int w)] := hl
  have in8 : ∀ w ∈ u_ws RX8 TX8 10, w ∈ wsX8_sealed := (fun _ h9 => List.mem_cons_of_mem _ (List.mem_append_right _ h9))
  have f7 := hts (.fieldLink RX8 7 "OrphanChainModel" "s" "[I") (List.mem_of_getElem? (i := 1) rfl)
  have k84 := hts (.constant RX8 84 (-100001)) (List.mem_of_getElem? (i := 2) rfl)
  have hn60 := hW.n60
  have hb10 := hW.b10
  have hs8 := hW.s8
  have hhn := hW.hn
  refine lv_iload_n hx hb dX8_sealed_0 rfl (lv_at hl 1 rfl) ?_
  refine lv_iconst (v := (nI 0)) hx hb dX8_sealed_1 (by decide) ?_
  refine lv_aload_n hx hb dX8_sealed_2 rfl (lv_at hl 0 rfl) ?_
  refine va_get (D := dg) (ci := 8) (v := .ref ms) (C := RX8) (T := TX8) (N := 10) hx hb hts in8 hown hK hP 0 rfl rfl 0 (by decide) f7 (fun _ h9 => h9) rfl dX8_sealed_3 ?_
  refine lv_iconst (v := (nI 4)) hx hb dX8_sealed_6 (by decide) ?_
  refine r_iald_n hx hb hK hP 1 rfl (k := 4) (by omega) (by omega) dX8_sealed_7 ?_
  refine r_top (show (s 4) = (nI (nS s)) from (hW.s)) ?_
  refine lv_iconst (v := (nI 1)) hx hb dX8_sealed_8 (by decide) ?_
  refine r_isub_z hx hb (nI_iI _) (nI_iI _) dX8_sealed_9 ?_
  refine call_x (va_runS (As := [.int x, .int (nI 0), .int (iI (((nS s : Nat) : Int) - ((1 : Nat) : Int)))]) (rest := []) ⟨hx, hb, hml, hown, hts⟩ (kX8_in ln dg tq (v := x) (lo := (nI 0)) (hi := (iI (((nS s : Nat) : Int) - ((1 : Nat) : Int)))) H.size) (va_cwS 3 hts gX8_sealed_X8_in rfl rfl rfl hdX8_in.2 ⟨Nat.le_of_ble_eq_true rfl, Nat.le_of_ble_eq_true rfl⟩) (preS0 hK hN [.int x, .int (nI 0), .int (iI (((nS s : Nat) : Int) - ((1 : Nat) : Int)))]) rfl rfl hl.1 rfl (lv_room (Nat.le_of_ble_eq_true rfl)) dX8_sealed_10 ⟨Nat.le_refl _, Nat.le_refl _⟩) hP hS hA (fun H locs hP hS => ?_)
  refine r_top (show (bI (inR x (nI 0) (iI (((nS s : Nat) : Int) - ((1 : Nat) : Int))))) = (bI (hasN x (nS s))) from by rw [inR_has (by omega)]) ?_
  refine r_if_eq_b (tgt := 25) hx hb dX8_sealed_13 (by decide) (fun c13 => ?_) (fun c13 => ?_)
  · skip
    refine lv_ldc hx hb hown k84 dX8_sealed_25 ?_
    exact hret (-100001) H locs _ ls (by rw [sdR, if_neg (fun z => by rw [c13] at z; cases z.1)]) rfl hS dX8_sealed_27
  · skip
    refine lv_iload_n hx hb dX8_sealed_16 rfl (lv_at hl 2 rfl) ?_
    refine lv_iconst (v := (nI 0)) hx hb dX8_sealed_17 (by decide) ?_
    refine lv_iconst (v := (nI 2)) hx hb dX8_sealed_18 (by decide) ?_
    refine call_x (va_runS (As := [.int w, .int (nI 0), .int (nI 2)]) (rest := []) ⟨hx, hb, hml, hown, hts⟩ (kX8_in ln dg tq (v := w) (lo := (nI 0)) (hi := (nI 2)) H.size) (va_cwS 3 hts gX8_sealed_X8_in rfl rfl rfl hdX8_in.2 ⟨Nat.le_of_ble_eq_true rfl, Nat.le_of_ble_eq_true rfl⟩) (preS0 hK hN [.int w, .int (nI 0), .int (nI 2)]) rfl rfl hl.1 rfl (lv_room (Nat.le_of_ble_eq_true rfl)) dX8_sealed_19 ⟨Nat.le_refl _, Nat.le_refl _⟩) hP hS hA (fun H locs hP hS => ?_)
    refine r_if_ne_b (tgt := 28) hx hb dX8_sealed_22 (by decide) (fun c22 => ?_) (fun c22 => ?_)
    · skip
      obtain ⟨sk_, hsk_, rfl⟩ := hasN_t c13
      obtain ⟨wk_, hw1, hw2, rfl⟩ := inR_t (a := 0) (b := 2) (by omega) (by omega) c22
      refine lv_iload_n hx hb dX8_sealed_28 rfl (lv_at hl 2 rfl) ?_
      refine lv_iconst (v := (nI 2)) hx hb dX8_sealed_29 (by decide) ?_
      refine r_icmp_ge (tgt := 50) hx hb (nI_tI (by omega)) (nI_tI (by omega)) dX8_sealed_30 (by decide) (fun c30 => ?_) (fun c30 => ?_)
      · skip
        refine lv_aload_n hx hb dX8_sealed_50 rfl (lv_at hl 0 rfl) ?_
        refine lv_iload_n hx hb dX8_sealed_51 rfl (lv_at hl 1 rfl) ?_
        refine call_x (va_runV (As := [.int (nI sk_)]) (rest := []) ⟨hx, hb, hml, hown, hts⟩ (kX8_isWhole ln dg tq (m0 := m0) (ms := ms) (mw := mw) (mt := mt) (su := su) (pt := pt) (td := td) (wy := wy) (xs := xs) (xt := xt) (xa := xa) (s := s) (hW := hW) (k := sk_) (hk := (by omega)) H.size) (cwV 1 hts gX8_sealed_X8_isWhole rfl rfl rfl hdX8_isWhole ⟨Nat.le_of_ble_eq_true rfl, Nat.le_of_ble_eq_true rfl⟩) (preVR hK hN hP [0, 1] rfl 0 rfl rfl [.int (nI sk_)]) rfl rfl hl.1 rfl (lv_room (Nat.le_of_ble_eq_true rfl)) dX8_sealed_52 ⟨Nat.le_refl _, Nat.le_refl _⟩) hP hS hA (fun H locs hP hS => ?_)
        refine r_if_eq_b (tgt := 62) hx hb dX8_sealed_55 (by decide) (fun c55 => ?_) (fun c55 => ?_)
        · skip
          refine lv_iconst (v := (nI 0)) hx hb dX8_sealed_62 (by decide) ?_
          exact hret (nI 0) H locs _ ls (by rw [sdR, if_pos ⟨hasN_n (by omega) (by omega), hasN_n (by omega) (by omega)⟩, cl_n (by omega), cl_n (by omega)]; rw [show wk_ = 2 by omega]; exact (by show _ = bI (sealB s sk_); rw [c55]; rfl)) rfl hS dX8_sealed_63
        · skip
          refine lv_iconst (v := (nI 1)) hx hb dX8_sealed_58 (by decide) ?_
          refine lv_goto (tgt := 63) hx hb dX8_sealed_59 (by decide) ?_
          exact hret (nI 1) H locs _ ls (by rw [sdR, if_pos ⟨hasN_n (by omega) (by omega), hasN_n (by omega) (by omega)⟩, cl_n (by omega), cl_n (by omega)]; rw [show wk_ = 2 by omega]; exact (by show _ = bI (sealB s sk_); rw [c55]; rfl)) rfl hS dX8_sealed_63
      · skip
        refine lv_aload_n hx hb dX8_sealed_33 rfl (lv_at hl 0 rfl) ?_
        refine va_get (D := dg) (ci := 8) (v := .ref ms) (C := RX8) (T := TX8) (N := 10) hx hb hts in8 hown hK hP 0 rfl rfl 0 (by decide) f7 (fun _ h9 => h9) rfl dX8_sealed_34 ?_
        refine lv_sipush (v := (nI 465)) hx hb dX8_sealed_37 (by decide) ?_
        refine lv_iconst (v := (nI 2)) hx hb dX8_sealed_40 (by decide) ?_
        refine lv_iload_n hx hb dX8_sealed_41 rfl (lv_at hl 1 rfl) ?_
        refine r_imul_n hx hb dX8_sealed_42 ?_
        refine r_iadd_n hx hb dX8_sealed_43 ?_
        refine lv_iload_n hx hb dX8_sealed_44 rfl (lv_at hl 2 rfl) ?_
        refine r_iadd_n hx hb dX8_sealed_45 ?_
        refine r_iald_n hx hb hK hP 1 rfl (k := ((465 + (2 * sk_)) + wk_)) (by omega) (by omega) dX8_sealed_46 ?_
        refine lv_goto (tgt := 63) hx hb dX8_sealed_47 (by decide) ?_
        exact hret (s ((465 + (2 * sk_)) + wk_)) H locs _ ls (by rw [sdR, if_pos ⟨hasN_n (by omega) (by omega), hasN_n (by omega) (by omega)⟩, cl_n (by omega), cl_n (by omega)]; rcases (show wk_ = 0 ∨ wk_ = 1 by omega) with rfl | rfl; (show msl s sk_ 0 = nI (sE s sk_); exact (hW.se hsk_).1); rfl) rfl hS dX8_sealed_63
    · skip
      refine lv_ldc hx hb hown k84 dX8_sealed_25 ?_
      exact hret (-100001) H locs _ ls (by rw [sdR, if_neg (fun z => by have z2 := z.2; rw [wk_f (by omega) rfl c22] at z2; cases z2)]) rfl hS dX8_sealed_27
theorem hdX8_common : yX8_common.cls = RX8 ∧ yX8_common.cls ≠ "java/lang/invoke/MethodHandle" ∧ yX8_common.cls ≠ "java/lang/invoke/VarHandle" ∧ (parseMethodDescriptor yX8_common.desc).map (fun d => d.parameters.length) = some 2 := by decide +kernel
set_option maxHeartbeats 4000000 in
set_option maxRecDepth 100000 in
theorem kX8_common (ln : Launch) (dg : va_G) (tq : ClassId × ClassId) (m0 ms mw mt su pt td wy : Nat) (xs xt xa : Int32) (s : Row) (hW : WF s) (x y : Int32) : MR ln yX8_common wsX8_common (rmm 3 68) dg tq [.ref m0, .int x, .int y] [(m0, .inr (8, [.ref ms, .ref mw, .int xs, .ref mt, .int xt, .int xa, .ref su, .ref pt, .ref td, .ref wy])), (ms, .inl (tq.1, 1445, .inl s))] (fun r => r = (cmR s x y)) := by
  refine MR.enter cX8_common 3 .int (by decide) rfl rfl (Nat.le_of_ble_eq_true rfl) ?_
  intro pP eE sS mM aA bB mT cC QQ AA hA hAT hret H locs hP hS ls hl
  obtain ⟨hx, hb, hml, hown, hts, hK, hN⟩ := hAT
  have hown : sS.vm.findClass RX8 = some mM.cls := hown
  have hl : lv_has ls 3 [(0, .ref m0), (1, .int x), (2, .int y)] := hl
  have k84 := hts (.constant RX8 84 (-100001)) (List.mem_of_getElem? (i := 1) rfl)
  have hn60 := hW.n60
  have hb10 := hW.b10
  have hs8 := hW.s8
  have hhn := hW.hn
  refine lv_aload_n hx hb dX8_common_0 rfl (lv_at hl 0 rfl) ?_
  refine lv_iload_n hx hb dX8_common_1 rfl (lv_at hl 1 rfl) ?_
  refine call_x (va_runV (As := [.int x]) (rest := []) ⟨hx, hb, hml, hown, hts⟩ (kX8_isEntry ln dg tq (m0 := m0) (ms := ms) (mw := mw) (mt := mt) (su := su) (pt := pt) (td := td) (wy := wy) (xs := xs) (xt := xt) (xa := xa) (s := s) (hW := hW) (x := x) H.size) (cwV 1 hts gX8_common_X8_isEntry rfl rfl rfl hdX8_isEntry ⟨Nat.le_of_ble_eq_true rfl, Nat.le_of_ble_eq_true rfl⟩) (preVR hK hN hP [0, 1] rfl 0 rfl rfl [.int x]) rfl rfl hl.1 rfl (lv_room (Nat.le_of_ble_eq_true rfl)) dX8_common_2 ⟨Nat.le_refl _, Nat.le_refl _⟩) hP hS hA (fun H locs hP hS => ?_)
  refine r_if_eq_b (tgt := 25) hx hb dX8_common_5 (by decide) (fun c5 => ?_) (fun c5 => ?_)
  · skip
    refine lv_ldc hx hb hown k84 dX8_common_25 ?_
    exact hret (-100001) H locs _ ls (by rw [cmR, if_neg (fun z => by rw [c5] at z; cases z.1)]) rfl hS dX8_common_27
  · skip
    refine lv_aload_n hx hb dX8_common_8 rfl (lv_at hl 0 rfl) ?_
    refine lv_iload_n hx hb dX8_common_9 rfl (lv_at hl 2 rfl) ?_
    refine call_x (va_runV (As := [.int y]) (rest := []) ⟨hx, hb, hml, hown, hts⟩ (kX8_isEntry ln dg tq (m0 := m0) (ms := ms) (mw := mw) (mt := mt) (su := su) (pt := pt) (td := td) (wy := wy) (xs := xs) (xt := xt) (xa := xa) (s := s) (hW := hW) (x := y) H.size) (cwV 1 hts gX8_common_X8_isEntry rfl rfl rfl hdX8_isEntry ⟨Nat.le_of_ble_eq_true rfl, Nat.le_of_ble_eq_true rfl⟩) (preVR hK hN hP [0, 1] rfl 0 rfl rfl [.int y]) rfl rfl hl.1 rfl (lv_room (Nat.le_of_ble_eq_true rfl)) dX8_common_10 ⟨Nat.le_refl _, Nat.le_refl _⟩) hP hS hA (fun H locs hP hS => ?_)
    refine r_if_eq_b (tgt := 25) hx hb dX8_common_13 (by decide) (fun c13 => ?_) (fun c13 => ?_)
    · skip
      refine lv_ldc hx hb hown k84 dX8_common_25 ?_
      exact hret (-100001) H locs _ ls (by rw [cmR, if_neg (fun z => by rw [c13] at z; cases z.2)]) rfl hS dX8_common_27
    · skip
      obtain ⟨ek_, hek_, rfl⟩ := hasN_t c5
      obtain ⟨fk_, hfk_, rfl⟩ := hasN_t c13
      refine lv_aload_n hx hb dX8_common_16 rfl (lv_at hl 0 rfl) ?_
      refine lv_iload_n hx hb dX8_common_17 rfl (lv_at hl 1 rfl) ?_
      refine lv_iload_n hx hb dX8_common_18 rfl (lv_at hl 2 rfl) ?_
      refine call_x (va_runV (As := [.int (nI ek_), .int (nI fk_)]) (rest := []) ⟨hx, hb, hml, hown, hts⟩ (kX8_meet ln dg tq (m0 := m0) (ms := ms) (mw := mw) (mt := mt) (su := su) (pt := pt) (td := td) (wy := wy) (xs := xs) (xt := xt) (xa := xa) (s := s) (hW := hW) (x := ek_) (y := fk_) (hx := (by omega)) (hy := (by omega)) H.size) (cwV 2 hts gX8_common_X8_meet rfl rfl rfl hdX8_meet ⟨Nat.le_of_ble_eq_true rfl, Nat.le_of_ble_eq_true rfl⟩) (preVR hK hN hP [0, 1] rfl 0 rfl rfl [.int (nI ek_), .int (nI fk_)]) rfl rfl hl.1 rfl (lv_room (Nat.le_of_ble_eq_true rfl)) dX8_common_19 ⟨Nat.le_refl _, Nat.le_refl _⟩) hP hS hA (fun H locs hP hS => ?_)
      refine lv_goto (tgt := 27) hx hb dX8_common_22 (by decide) ?_
      exact hret (nI (meet s ek_ fk_)) H locs _ ls (by rw [cmR, if_pos ⟨c5, c13⟩, cl_n (by omega), cl_n (by omega)]) rfl hS dX8_common_27
theorem hdX8_peak : yX8_peak.cls = RX8 ∧ yX8_peak.cls ≠ "java/lang/invoke/MethodHandle" ∧ yX8_peak.cls ≠ "java/lang/invoke/VarHandle" ∧ (parseMethodDescriptor yX8_peak.desc).map (fun d => d.parameters.length) = some 2 := by decide +kernel
set_option maxHeartbeats 4000000 in
set_option maxRecDepth 100000 in
theorem kX8_peak (ln : Launch) (dg : va_G) (tq : ClassId × ClassId) (m0 ms mw mt su pt td wy : Nat) (xs xt xa : Int32) (s f : Row) (hW : WF s) (a w : Int32) : MW ln yX8_peak wsX8_peak (rmm 3 67) dg tq [.ref m0, .int a, .int w] [(m0, .inr (8, [.ref ms, .ref mw, .int xs, .ref mt, .int xt, .int xa, .ref su, .ref pt, .ref td, .ref wy])), (ms, .inl (tq.1, 1445, .inl s)), (su, .inl (tq.1, 6, .inl f))] (fun (r : Int32) (u : Row) => r = (pkR s a w)) (fun u => [(m0, .inr (8, [.ref ms, .ref mw, .int xs, .ref mt, .int xt, .int xa, .ref su, .ref pt, .ref td, .ref wy])), (ms, .inl (tq.1, 1445, .inl s)), (su, .inl (tq.1, 6, .inl u))]) := by
  refine MW.enter cX8_peak 8 .int (by decide) rfl rfl (Nat.le_of_ble_eq_true rfl) ?_
  intro pP eE sS mM aA bB mT cC QQ AA hA hAT hret H locs hP hD hS ls hl
  obtain ⟨hx, hb, hml, hown, hts, hK, hN⟩ := hAT
  have hown : sS.vm.findClass RX8 = some mM.cls := hown
  have hl : lv_has ls 8 [(0, .ref m0), (1, .int a), (2, .int w)] := hl
  have in8 : ∀ w ∈ u_ws RX8 TX8 10, w ∈ wsX8_peak := (fun _ h9 => List.mem_cons_of_mem _ (List.mem_append_right _ h9))
  have k84 := hts (.constant RX8 84 (-100001)) (List.mem_of_getElem? (i := 1) rfl)
  have f7 := hts (.fieldLink RX8 7 "OrphanChainModel" "s" "[I") (List.mem_of_getElem? (i := 2) rfl)
  have f20 := hts (.fieldLink RX8 20 "OrphanChainModel" "sums" "[I") (List.mem_of_getElem? (i := 3) rfl)
  have hn60 := hW.n60
  have hb10 := hW.b10
  have hs8 := hW.s8
  have hhn := hW.hn
  have hdl := dep_le hW _ hhn
  have hd1 := dep_ge1 s (hE s)
  refine lv_iload_n hx hb dX8_peak_0 rfl (lv_at hl 1 rfl) ?_
  refine lv_iconst (v := (nI 0)) hx hb dX8_peak_1 (by decide) ?_
  refine lv_iconst (v := (nI 5)) hx hb dX8_peak_2 (by decide) ?_
  refine call_x (va_runS (As := [.int a, .int (nI 0), .int (nI 5)]) (rest := []) ⟨hx, hb, hml, hown, hts⟩ (kX8_in ln dg tq (v := a) (lo := (nI 0)) (hi := (nI 5)) H.size) (va_cwS 3 hts gX8_peak_X8_in rfl rfl rfl hdX8_in.2 ⟨Nat.le_of_ble_eq_true rfl, Nat.le_of_ble_eq_true rfl⟩) (preS0 hK hN [.int a, .int (nI 0), .int (nI 5)]) rfl rfl hl.1 rfl (lv_room (Nat.le_of_ble_eq_true rfl)) dX8_peak_3 ⟨Nat.le_refl _, Nat.le_refl _⟩) hP hS hA (fun H locs hP hS => ?_)
  refine r_if_eq_b (tgt := 18) hx hb dX8_peak_6 (by decide) (fun c6 => ?_) (fun c6 => ?_)
  · skip
    refine lv_ldc hx hb hown k84 dX8_peak_18 ?_
    exact hret (-100001) (f) H locs _ ls (by unfold pkR; rw [if_neg (fun z => by rw [c6] at z; cases z.1)]) rfl (hP.sub [0, 1, 2] rfl) (hD.sub [0, 1, 2] (by decide) rfl) hS dX8_peak_20
  · skip
    refine lv_iload_n hx hb dX8_peak_9 rfl (lv_at hl 2 rfl) ?_
    refine lv_iconst (v := (nI 0)) hx hb dX8_peak_10 (by decide) ?_
    refine lv_iconst (v := (nI 1)) hx hb dX8_peak_11 (by decide) ?_
    refine call_x (va_runS (As := [.int w, .int (nI 0), .int (nI 1)]) (rest := []) ⟨hx, hb, hml, hown, hts⟩ (kX8_in ln dg tq (v := w) (lo := (nI 0)) (hi := (nI 1)) H.size) (va_cwS 3 hts gX8_peak_X8_in rfl rfl rfl hdX8_in.2 ⟨Nat.le_of_ble_eq_true rfl, Nat.le_of_ble_eq_true rfl⟩) (preS0 hK hN [.int w, .int (nI 0), .int (nI 1)]) rfl rfl hl.1 rfl (lv_room (Nat.le_of_ble_eq_true rfl)) dX8_peak_12 ⟨Nat.le_refl _, Nat.le_refl _⟩) hP hS hA (fun H locs hP hS => ?_)
    refine r_if_ne_b (tgt := 21) hx hb dX8_peak_15 (by decide) (fun c15 => ?_) (fun c15 => ?_)
    · skip
      obtain ⟨ak_, ha1, ha2, rfl⟩ := inR_t (by omega) (by omega) c6
      refine lv_iconst (v := (nI 0)) hx hb dX8_peak_21 (by decide) ?_
      refine lv_istore_n (lv' := [(3, .int (nI 0)), (0, .ref m0), (1, .int (nI ak_)), (2, .int w)]) hx hb dX8_peak_22 rfl hl (by decide) rfl (fun ls hl => ?_)
      refine lv_iconst (v := (nI 0)) hx hb dX8_peak_23 (by decide) ?_
      refine lv_istore (lv' := [(4, .int (nI 0)), (3, .int (nI 0)), (0, .ref m0), (1, .int (nI ak_)), (2, .int w)]) hx hb dX8_peak_24 hl (by decide) rfl (fun ls hl => ?_)
      refine lv_aload_n hx hb dX8_peak_26 rfl (lv_at hl 2 rfl) ?_
      refine lv_aload_n hx hb dX8_peak_27 rfl (lv_at hl 2 rfl) ?_
      refine va_get (D := dg) (ci := 8) (v := .ref ms) (C := RX8) (T := TX8) (N := 10) hx hb hts in8 hown hK hP 0 rfl rfl 0 (by decide) f7 (fun _ h9 => h9) rfl dX8_peak_28 ?_
      refine lv_iconst (v := (nI 1)) hx hb dX8_peak_31 (by decide) ?_
      refine r_iald_n hx hb hK hP 1 rfl (k := 1) (by omega) (by omega) dX8_peak_32 ?_
      refine r_top (show (s 1) = (nI (hE s)) from (hW.h)) ?_
      refine call_x (va_runV (As := [.int (nI (hE s))]) (rest := []) ⟨hx, hb, hml, hown, hts⟩ (kX8_depth ln dg tq (m0 := m0) (ms := ms) (mw := mw) (mt := mt) (su := su) (pt := pt) (td := td) (wy := wy) (xs := xs) (xt := xt) (xa := xa) (s := s) (hW := hW) (y := hE s) (hy := (by omega)) H.size) (cwV 1 hts gX8_peak_X8_depth rfl rfl rfl hdX8_depth ⟨Nat.le_of_ble_eq_true rfl, Nat.le_of_ble_eq_true rfl⟩) (preVR hK hN hP [0, 1] rfl 0 rfl rfl [.int (nI (hE s))]) rfl rfl hl.1 rfl (lv_room (Nat.le_of_ble_eq_true rfl)) dX8_peak_33 ⟨Nat.le_refl _, Nat.le_refl _⟩) hP hS hA (fun H locs hP hS => ?_)
      refine lv_istore (lv' := [(5, .int (nI (dep s (hE s)))), (4, .int (nI 0)), (3, .int (nI 0)), (0, .ref m0), (1, .int (nI ak_)), (2, .int w)]) hx hb dX8_peak_36 hl (by decide) rfl (fun ls hl => ?_)
      have hl : lv_has ls 8 [(5, .int (nI (dep s (hE s)))), (4, .int (nI 0)), (3, .int (iI (pkM s ak_ 1))), (0, .ref m0), (1, .int (nI ak_)), (2, .int w)] := by have el : (nI 0) = (iI (pkM s ak_ 1)) := (by rw [(pkM_1 hW ak_).1]; rfl); rw [← el]; exact hl
      have hl : lv_has ls 8 [(5, .int (nI (dep s (hE s)))), (4, .int (nI (pkE s ak_ 1))), (3, .int (iI (pkM s ak_ 1))), (0, .ref m0), (1, .int (nI ak_)), (2, .int w)] := by have el : (nI 0) = (nI (pkE s ak_ 1)) := (by rw [(pkM_1 hW ak_).2]); rw [← el]; exact hl
      refine lv_iconst (v := (nI 1)) hx hb dX8_peak_38 (by decide) ?_
      refine lv_istore (lv' := [(6, .int (nI 1)), (5, .int (nI (dep s (hE s)))), (4, .int (nI (pkE s ak_ 1))), (3, .int (iI (pkM s ak_ 1))), (0, .ref m0), (1, .int (nI ak_)), (2, .int w)]) hx hb dX8_peak_39 hl (by decide) rfl (fun ls hl => ?_)
      have loop41 : ∀ (fu : Nat) (j_ : Nat) (f_ : Row) (H : Heap) (locs : List Loc) (ls : Array Slot), (1 ≤ j_ ∧ j_ ≤ dep s (hE s)) → dep s (hE s) - j_ < fu → va_P dg vwCl [(m0, .inr (8, [.ref ms, .ref mw, .int xs, .ref mt, .int xt, .int xa, .ref su, .ref pt, .ref td, .ref wy])), (ms, .inl (tq.1, 1445, .inl s)), (su, .inl (tq.1, 6, .inl f_))] H → va_D AA [(m0, .inr (8, [.ref ms, .ref mw, .int xs, .ref mt, .int xt, .int xa, .ref su, .ref pt, .ref td, .ref wy])), (ms, .inl (tq.1, 1445, .inl s)), (su, .inl (tq.1, 6, .inl f_))] → va_S AA sS.heap H locs → lv_has ls 8 [(0, .ref m0), (1, .int (nI ak_)), (2, .int w), (3, .int (iI (pkM s ak_ j_))), (4, .int (nI (pkE s ak_ j_))), (5, .int (nI (dep s (hE s)))), (6, .int (nI j_))] → W pP ln eE (rmm 3 67) sS mM aA bB mT cC H locs 0 0 QQ (F0 mM 41 ls []) := by
        intro fu
        induction fu with
        | zero => intro j_ f_ H locs ls _ hm; exact absurd hm (Nat.not_lt_zero _)
        | succ fu ih41 =>
          intro j_ f_ H locs ls hinv hm hP hD hS hl
          obtain ⟨hi1, hi2⟩ := hinv
          refine lv_iload hx hb dX8_peak_41 (lv_at hl 6 rfl) ?_
          refine lv_iload hx hb dX8_peak_43 (lv_at hl 5 rfl) ?_
          refine r_icmp_ge (tgt := 119) hx hb (nI_tI (by omega)) (nI_tI (by omega)) dX8_peak_45 (by decide) (fun c45 => ?_) (fun c45 => ?_)
          · skip
            refine lv_iload_n hx hb dX8_peak_119 rfl (lv_at hl 2 rfl) ?_
            refine r_if_ne (tgt := 127) hx hb rfl dX8_peak_120 (by decide) (fun c120 => ?_) (fun c120 => ?_)
            · skip
              refine lv_iload hx hb dX8_peak_127 (lv_at hl 4 rfl) ?_
              exact hret (nI (pkE s ak_ j_)) (f_) H locs _ ls (by unfold pkR; rw [if_pos ⟨c6, c15⟩, if_neg (show ¬ w = nI 0 from fun z => c120 (by rw [z]; rfl)), cl_n (show ak_ < 2147483648 by omega), show dep s (hE s) = j_ by omega]) rfl (hP.sub [0, 1, 2] rfl) (hD.sub [0, 1, 2] (by decide) rfl) hS dX8_peak_129
            · skip
              refine lv_iload_n hx hb dX8_peak_123 rfl (lv_at hl 3 rfl) ?_
              refine lv_goto (tgt := 129) hx hb dX8_peak_124 (by decide) ?_
              exact hret (iI (pkM s ak_ j_)) (f_) H locs _ ls (by unfold pkR; rw [if_pos ⟨c6, c15⟩, if_pos (show w = nI 0 from i32_eq c120), cl_n (show ak_ < 2147483648 by omega), show dep s (hE s) = j_ by omega]) rfl (hP.sub [0, 1, 2] rfl) (hD.sub [0, 1, 2] (by decide) rfl) hS dX8_peak_129
          · skip
            have hcE := cE_in hW (k := j_) (by omega)
            have hbb := bal_bd hW hcE ak_ (by omega)
            have hpk := pkM_bd hW (a := ak_) (by omega) (j := j_) (by omega)
            refine lv_aload_n hx hb dX8_peak_48 rfl (lv_at hl 0 rfl) ?_
            refine lv_aload_n hx hb dX8_peak_49 rfl (lv_at hl 0 rfl) ?_
            refine va_get (D := dg) (ci := 8) (v := .ref ms) (C := RX8) (T := TX8) (N := 10) hx hb hts in8 hown hK hP 0 rfl rfl 0 (by decide) f7 (fun _ h9 => h9) rfl dX8_peak_50 ?_
            refine lv_iconst (v := (nI 1)) hx hb dX8_peak_53 (by decide) ?_
            refine r_iald_n hx hb hK hP 1 rfl (k := 1) (by omega) (by omega) dX8_peak_54 ?_
            refine r_top (show (s 1) = (nI (hE s)) from (hW.h)) ?_
            refine lv_iload hx hb dX8_peak_55 (lv_at hl 5 rfl) ?_
            refine lv_iconst (v := (nI 1)) hx hb dX8_peak_57 (by decide) ?_
            refine r_isub_n hx hb (by omega) dX8_peak_58 ?_
            refine lv_iload hx hb dX8_peak_59 (lv_at hl 6 rfl) ?_
            refine r_isub_n hx hb (by omega) dX8_peak_61 ?_
            refine call_x (va_runV (As := [.int (nI (hE s)), .int (nI (((dep s (hE s)) - 1) - j_))]) (rest := []) ⟨hx, hb, hml, hown, hts⟩ (kX8_above ln dg tq (m0 := m0) (ms := ms) (mw := mw) (mt := mt) (su := su) (pt := pt) (td := td) (wy := wy) (xs := xs) (xt := xt) (xa := xa) (s := s) (hW := hW) (y := hE s) (k := ((dep s (hE s)) - 1) - j_) (hy := (by omega)) (hk := (by omega)) H.size) (cwV 2 hts gX8_peak_X8_above rfl rfl rfl hdX8_above ⟨Nat.le_of_ble_eq_true rfl, Nat.le_of_ble_eq_true rfl⟩) (preVR hK hN hP [0, 1] rfl 0 rfl rfl [.int (nI (hE s)), .int (nI (((dep s (hE s)) - 1) - j_))]) rfl rfl hl.1 rfl (lv_room (Nat.le_of_ble_eq_true rfl)) dX8_peak_62 ⟨Nat.le_refl _, Nat.le_refl _⟩) hP hS hA (fun H locs hP hS => ?_)
            refine r_top (show (nI (up s (hE s) (((dep s (hE s)) - 1) - j_))) = (nI (cE s j_)) from rfl) ?_
            refine lv_istore (lv' := [(7, .int (nI (cE s j_))), (0, .ref m0), (1, .int (nI ak_)), (2, .int w), (3, .int (iI (pkM s ak_ j_))), (4, .int (nI (pkE s ak_ j_))), (5, .int (nI (dep s (hE s)))), (6, .int (nI j_))]) hx hb dX8_peak_65 hl (by decide) rfl (fun ls hl => ?_)
            refine lv_aload_n hx hb dX8_peak_67 rfl (lv_at hl 1 rfl) ?_
            refine lv_iload hx hb dX8_peak_68 (lv_at hl 0 rfl) ?_
            refine call_v (wr := []) (va_runV (As := [.int (nI (cE s j_))]) (rest := []) ⟨hx, hb, hml, hown, hts⟩ (kX8_balances ln dg tq (m0 := m0) (ms := ms) (mw := mw) (mt := mt) (su := su) (pt := pt) (td := td) (wy := wy) (xs := xs) (xt := xt) (xa := xa) (s := s) (f := f_) (hW := hW) (y := cE s j_) (hy := (by omega)) H.size) (cwV 1 hts gX8_peak_X8_balances rfl rfl rfl hdX8_balances ⟨Nat.le_of_ble_eq_true rfl, Nat.le_of_ble_eq_true rfl⟩) (preVB hK hN hP hD [0, 1, 2] rfl rfl rfl 0 rfl rfl [.int (nI (cE s j_))]) rfl rfl hl.1 rfl (lv_room (Nat.le_of_ble_eq_true rfl)) dX8_peak_70 ⟨Nat.le_refl _, Nat.le_refl _⟩) hP hD hS hA [0, 1, 2] [] rfl rfl (by decide) (by decide) (fun u70 H locs hw70 hP hD hS => ?_)
            obtain ⟨g70, rfl⟩ : ∃ z, z = u70 := ⟨_, rfl⟩
            have hP : va_P dg vwCl [(m0, .inr (8, [.ref ms, .ref mw, .int xs, .ref mt, .int xt, .int xa, .ref su, .ref pt, .ref td, .ref wy])), (ms, .inl (tq.1, 1445, .inl s)), (su, .inl (tq.1, 6, .inl g70))] H := hP
            have hD : va_D AA [(m0, .inr (8, [.ref ms, .ref mw, .int xs, .ref mt, .int xt, .int xa, .ref su, .ref pt, .ref td, .ref wy])), (ms, .inl (tq.1, 1445, .inl s)), (su, .inl (tq.1, 6, .inl g70))] := hD
            refine lv_aload_n hx hb dX8_peak_73 rfl (lv_at hl 1 rfl) ?_
            refine va_get (D := dg) (ci := 8) (v := .ref su) (C := RX8) (T := TX8) (N := 10) hx hb hts in8 hown hK hP 0 rfl rfl 6 (by decide) f20 (fun _ h9 => h9) rfl dX8_peak_74 ?_
            refine lv_iload_n hx hb dX8_peak_77 rfl (lv_at hl 2 rfl) ?_
            refine r_iald_n hx hb hK hP 2 rfl (k := ak_) (by omega) (by omega) dX8_peak_78 ?_
            refine r_top (show (g70 ak_) = (iI (bal s (cE s j_) ak_)) from hw70 ak_ (by omega)) ?_
            refine lv_iload_n hx hb dX8_peak_79 rfl (lv_at hl 4 rfl) ?_
            refine r_icmp_le (tgt := 88) hx hb (iI_toInt (by omega) (by omega)) (iI_toInt (by omega) (by omega)) dX8_peak_80 (by decide) (fun c80 => ?_) (fun c80 => ?_)
            · skip
              refine lv_iload hx hb dX8_peak_88 (lv_at hl 5 rfl) ?_
              refine lv_istore (lv' := [(4, .int (nI (pkE s ak_ j_))), (7, .int (nI (cE s j_))), (0, .ref m0), (1, .int (nI ak_)), (2, .int w), (3, .int (iI (pkM s ak_ j_))), (5, .int (nI (dep s (hE s)))), (6, .int (nI j_))]) hx hb dX8_peak_90 hl (by decide) rfl (fun ls hl => ?_)
              refine lv_aload_n hx hb dX8_peak_92 rfl (lv_at hl 2 rfl) ?_
              refine va_get (D := dg) (ci := 8) (v := .ref su) (C := RX8) (T := TX8) (N := 10) hx hb hts in8 hown hK hP 0 rfl rfl 6 (by decide) f20 (fun _ h9 => h9) rfl dX8_peak_93 ?_
              refine lv_iload_n hx hb dX8_peak_96 rfl (lv_at hl 3 rfl) ?_
              refine r_iald_n hx hb hK hP 2 rfl (k := ak_) (by omega) (by omega) dX8_peak_97 ?_
              refine r_top (show (g70 ak_) = (iI (bal s (cE s j_) ak_)) from hw70 ak_ (by omega)) ?_
              refine lv_iload_n hx hb dX8_peak_98 rfl (lv_at hl 5 rfl) ?_
              refine r_icmp_le (tgt := 111) hx hb (iI_toInt (by omega) (by omega)) (iI_toInt (by omega) (by omega)) dX8_peak_99 (by decide) (fun c99 => ?_) (fun c99 => False.elim (by omega))
              refine lv_iload_n hx hb dX8_peak_111 rfl (lv_at hl 5 rfl) ?_
              refine lv_istore_n (lv' := [(3, .int (iI (pkM s ak_ j_))), (4, .int (nI (pkE s ak_ j_))), (7, .int (nI (cE s j_))), (0, .ref m0), (1, .int (nI ak_)), (2, .int w), (5, .int (nI (dep s (hE s)))), (6, .int (nI j_))]) hx hb dX8_peak_112 rfl hl (by decide) rfl (fun ls hl => ?_)
              have hl : lv_has ls 8 [(3, .int (iI (pkM s ak_ (j_ + 1)))), (4, .int (nI (pkE s ak_ j_))), (7, .int (nI (cE s j_))), (0, .ref m0), (1, .int (nI ak_)), (2, .int w), (5, .int (nI (dep s (hE s)))), (6, .int (nI j_))] := by have el : (iI (pkM s ak_ j_)) = (iI (pkM s ak_ (j_ + 1))) := (by rw [pkM, if_neg (by omega)]); rw [← el]; exact hl
              have hl : lv_has ls 8 [(3, .int (iI (pkM s ak_ (j_ + 1)))), (4, .int (nI (pkE s ak_ (j_ + 1)))), (7, .int (nI (cE s j_))), (0, .ref m0), (1, .int (nI ak_)), (2, .int w), (5, .int (nI (dep s (hE s)))), (6, .int (nI j_))] := by have el : (nI (pkE s ak_ j_)) = (nI (pkE s ak_ (j_ + 1))) := (by rw [pkE, if_neg (by omega)]); rw [← el]; exact hl
              refine lv_iinc (v := (nI (j_ + 1))) (lv' := [(6, .int (nI (j_ + 1))), (3, .int (iI (pkM s ak_ (j_ + 1)))), (4, .int (nI (pkE s ak_ (j_ + 1)))), (7, .int (nI (cE s j_))), (0, .ref m0), (1, .int (nI ak_)), (2, .int w), (5, .int (nI (dep s (hE s))))]) hx hb dX8_peak_113 hl (k := 7) rfl (nI_add _ _) (by decide) rfl (fun ls hl => ?_)
              refine lv_goto (tgt := 41) hx hb dX8_peak_116 (by decide) ?_
              exact ih41 (j_ + 1) g70 H locs ls (by omega) (by omega) (hP.sub [0, 1, 2] rfl) (hD.sub [0, 1, 2] (by decide) rfl) hS (lv_sub hl [4, 5, 6, 1, 2, 7, 0] rfl)
            · skip
              refine lv_iload hx hb dX8_peak_83 (lv_at hl 0 rfl) ?_
              refine lv_goto (tgt := 90) hx hb dX8_peak_85 (by decide) ?_
              refine lv_istore (lv' := [(4, .int (nI (cE s j_))), (7, .int (nI (cE s j_))), (0, .ref m0), (1, .int (nI ak_)), (2, .int w), (3, .int (iI (pkM s ak_ j_))), (5, .int (nI (dep s (hE s)))), (6, .int (nI j_))]) hx hb dX8_peak_90 hl (by decide) rfl (fun ls hl => ?_)
              refine lv_aload_n hx hb dX8_peak_92 rfl (lv_at hl 2 rfl) ?_
              refine va_get (D := dg) (ci := 8) (v := .ref su) (C := RX8) (T := TX8) (N := 10) hx hb hts in8 hown hK hP 0 rfl rfl 6 (by decide) f20 (fun _ h9 => h9) rfl dX8_peak_93 ?_
              refine lv_iload_n hx hb dX8_peak_96 rfl (lv_at hl 3 rfl) ?_
              refine r_iald_n hx hb hK hP 2 rfl (k := ak_) (by omega) (by omega) dX8_peak_97 ?_
              refine r_top (show (g70 ak_) = (iI (bal s (cE s j_) ak_)) from hw70 ak_ (by omega)) ?_
              refine lv_iload_n hx hb dX8_peak_98 rfl (lv_at hl 5 rfl) ?_
              refine r_icmp_le (tgt := 111) hx hb (iI_toInt (by omega) (by omega)) (iI_toInt (by omega) (by omega)) dX8_peak_99 (by decide) (fun c99 => False.elim (by omega)) (fun c99 => ?_)
              refine lv_aload_n hx hb dX8_peak_102 rfl (lv_at hl 2 rfl) ?_
              refine va_get (D := dg) (ci := 8) (v := .ref su) (C := RX8) (T := TX8) (N := 10) hx hb hts in8 hown hK hP 0 rfl rfl 6 (by decide) f20 (fun _ h9 => h9) rfl dX8_peak_103 ?_
              refine lv_iload_n hx hb dX8_peak_106 rfl (lv_at hl 3 rfl) ?_
              refine r_iald_n hx hb hK hP 2 rfl (k := ak_) (by omega) (by omega) dX8_peak_107 ?_
              refine r_top (show (g70 ak_) = (iI (bal s (cE s j_) ak_)) from hw70 ak_ (by omega)) ?_
              refine lv_goto (tgt := 112) hx hb dX8_peak_108 (by decide) ?_
              refine lv_istore_n (lv' := [(3, .int (iI (bal s (cE s j_) ak_))), (4, .int (nI (cE s j_))), (7, .int (nI (cE s j_))), (0, .ref m0), (1, .int (nI ak_)), (2, .int w), (5, .int (nI (dep s (hE s)))), (6, .int (nI j_))]) hx hb dX8_peak_112 rfl hl (by decide) rfl (fun ls hl => ?_)
              have hl : lv_has ls 8 [(3, .int (iI (pkM s ak_ (j_ + 1)))), (4, .int (nI (cE s j_))), (7, .int (nI (cE s j_))), (0, .ref m0), (1, .int (nI ak_)), (2, .int w), (5, .int (nI (dep s (hE s)))), (6, .int (nI j_))] := by have el : (iI (bal s (cE s j_) ak_)) = (iI (pkM s ak_ (j_ + 1))) := (by rw [pkM, if_pos (by omega)]); rw [← el]; exact hl
              have hl : lv_has ls 8 [(3, .int (iI (pkM s ak_ (j_ + 1)))), (4, .int (nI (pkE s ak_ (j_ + 1)))), (7, .int (nI (cE s j_))), (0, .ref m0), (1, .int (nI ak_)), (2, .int w), (5, .int (nI (dep s (hE s)))), (6, .int (nI j_))] := by have el : (nI (cE s j_)) = (nI (pkE s ak_ (j_ + 1))) := (by rw [pkE, if_pos (by omega)]); rw [← el]; exact hl
              refine lv_iinc (v := (nI (j_ + 1))) (lv' := [(6, .int (nI (j_ + 1))), (3, .int (iI (pkM s ak_ (j_ + 1)))), (4, .int (nI (pkE s ak_ (j_ + 1)))), (7, .int (nI (cE s j_))), (0, .ref m0), (1, .int (nI ak_)), (2, .int w), (5, .int (nI (dep s (hE s))))]) hx hb dX8_peak_113 hl (k := 7) rfl (nI_add _ _) (by decide) rfl (fun ls hl => ?_)
              refine lv_goto (tgt := 41) hx hb dX8_peak_116 (by decide) ?_
              exact ih41 (j_ + 1) g70 H locs ls (by omega) (by omega) (hP.sub [0, 1, 2] rfl) (hD.sub [0, 1, 2] (by decide) rfl) hS (lv_sub hl [4, 5, 6, 1, 2, 7, 0] rfl)
      exact loop41 _ 1 f H locs ls (by omega) (Nat.lt_succ_self _) (hP.sub [0, 1, 2] rfl) (hD.sub [0, 1, 2] (by decide) rfl) hS (lv_sub hl [4, 5, 6, 3, 2, 1, 0] rfl)
    · skip
      refine lv_ldc hx hb hown k84 dX8_peak_18 ?_
      exact hret (-100001) (f) H locs _ ls (by unfold pkR; rw [if_neg (fun z => by rw [c15] at z; cases z.2)]) rfl (hP.sub [0, 1, 2] rfl) (hD.sub [0, 1, 2] (by decide) rfl) hS dX8_peak_20
