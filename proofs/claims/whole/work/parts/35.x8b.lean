theorem hdX8_leaves : yX8_leaves.cls = RX8 ∧ yX8_leaves.cls ≠ "java/lang/invoke/MethodHandle" ∧ yX8_leaves.cls ≠ "java/lang/invoke/VarHandle" ∧ (parseMethodDescriptor yX8_leaves.desc).map (fun d => d.parameters.length) = some 0 := by decide +kernel
set_option maxHeartbeats 4000000 in
set_option maxRecDepth 100000 in
theorem kX8_leaves (ln : Launch) (dg : va_G) (tq : ClassId × ClassId) (m0 ms mw mt su pt td wy : Nat) (xs xt xa : Int32) (s : Row) (hW : WF s) : MR ln yX8_leaves wsX8_leaves (rmm 1 22) dg tq [.ref m0] [(m0, .inr (8, [.ref ms, .ref mw, .int xs, .ref mt, .int xt, .int xa, .ref su, .ref pt, .ref td, .ref wy])), (ms, .inl (tq.1, 1445, .inl s))] (fun r => r = (nI (cntF (leafB s) (nE s)))) := by
  refine MR.enter cX8_leaves 5 .int (by decide) rfl rfl (Nat.le_of_ble_eq_true rfl) ?_
  intro pP eE sS mM aA bB mT cC QQ AA hA hAT hret H locs hP hS ls hl
  obtain ⟨hx, hb, hml, hown, hts, hK, hN⟩ := hAT
  have hown : sS.vm.findClass RX8 = some mM.cls := hown
  have hl : lv_has ls 5 [(0, .ref m0)] := hl
  have in8 : ∀ w ∈ u_ws RX8 TX8 10, w ∈ wsX8_leaves := (fun _ h9 => List.mem_cons_of_mem _ (List.mem_append_right _ h9))
  have f7 := hts (.fieldLink RX8 7 "OrphanChainModel" "s" "[I") (List.mem_of_getElem? (i := 1) rfl)
  have hn60 := hW.n60
  have hb10 := hW.b10
  have hs8 := hW.s8
  have hhn := hW.hn
  refine lv_iconst (v := (nI 0)) hx hb dX8_leaves_0 (by decide) ?_
  refine lv_istore_n (lv' := [(1, .int (nI 0)), (0, .ref m0)]) hx hb dX8_leaves_1 rfl hl (by decide) rfl (fun ls hl => ?_)
  refine lv_iconst (v := (nI 0)) hx hb dX8_leaves_2 (by decide) ?_
  refine lv_istore_n (lv' := [(2, .int (nI 0)), (1, .int (nI 0)), (0, .ref m0)]) hx hb dX8_leaves_3 rfl hl (by decide) rfl (fun ls hl => ?_)
  have loop4 : ∀ (fu : Nat) (k_ : Nat) (i_ : Nat) (H : Heap) (locs : List Loc) (ls : Array Slot), (k_ = cntF (leafB s) i_ ∧ i_ ≤ nE s) → nE s - i_ < fu → va_P dg vwCl [(m0, .inr (8, [.ref ms, .ref mw, .int xs, .ref mt, .int xt, .int xa, .ref su, .ref pt, .ref td, .ref wy])), (ms, .inl (tq.1, 1445, .inl s))] H → va_S AA sS.heap H locs → lv_has ls 5 [(0, .ref m0), (1, .int (nI k_)), (2, .int (nI i_))] → W pP ln eE (rmm 1 22) sS mM aA bB mT cC H locs 0 0 QQ (F0 mM 4 ls []) := by
    intro fu
    induction fu with
    | zero => intro k_ i_ H locs ls _ hm; exact absurd hm (Nat.not_lt_zero _)
    | succ fu ih4 =>
      intro k_ i_ H locs ls hinv hm hP hS hl
      obtain ⟨hi1, hi2⟩ := hinv
      refine lv_iload_n hx hb dX8_leaves_4 rfl (lv_at hl 2 rfl) ?_
      refine lv_aload_n hx hb dX8_leaves_5 rfl (lv_at hl 0 rfl) ?_
      refine va_get (D := dg) (ci := 8) (v := .ref ms) (C := RX8) (T := TX8) (N := 10) hx hb hts in8 hown hK hP 0 rfl rfl 0 (by decide) f7 (fun _ h9 => h9) rfl dX8_leaves_6 ?_
      refine lv_iconst (v := (nI 0)) hx hb dX8_leaves_9 (by decide) ?_
      refine r_iald_n hx hb hK hP 1 rfl (k := 0) (by omega) (by omega) dX8_leaves_10 ?_
      refine r_top (show (s 0) = (nI (nE s)) from (hW.n)) ?_
      refine r_icmp_ge (tgt := 77) hx hb (nI_tI (by omega)) (nI_tI (by omega)) dX8_leaves_11 (by decide) (fun c11 => ?_) (fun c11 => ?_)
      · skip
        refine lv_iload_n hx hb dX8_leaves_77 rfl (lv_at hl 1 rfl) ?_
        exact hret (nI k_) H locs _ ls (by rw [hi1, show i_ = nE s by omega]) rfl hS dX8_leaves_78
      · skip
        refine lv_iconst (v := (nI 1)) hx hb dX8_leaves_14 (by decide) ?_
        refine lv_istore_n (lv' := [(3, .int (nI 1)), (0, .ref m0), (1, .int (nI k_)), (2, .int (nI i_))]) hx hb dX8_leaves_15 rfl hl (by decide) rfl (fun ls hl => ?_)
        have hl : lv_has ls 5 [(3, .int (bI true)), (0, .ref m0), (1, .int (nI k_)), (2, .int (nI i_))] := by have el : (nI 1) = (bI true) := (rfl); rw [← el]; exact hl
        refine lv_iload_n hx hb dX8_leaves_16 rfl (lv_at hl 3 rfl) ?_
        refine lv_iconst (v := (nI 1)) hx hb dX8_leaves_17 (by decide) ?_
        refine r_iadd_n hx hb dX8_leaves_18 ?_
        refine lv_istore (lv' := [(4, .int (nI (i_ + 1))), (3, .int (bI true)), (0, .ref m0), (1, .int (nI k_)), (2, .int (nI i_))]) hx hb dX8_leaves_19 hl (by decide) rfl (fun ls hl => ?_)
        have loop21 : ∀ (fu : Nat) (j_ : Nat) (b_ : Bool) (H : Heap) (locs : List Loc) (ls : Array Slot), (i_ < j_ ∧ j_ ≤ nE s ∧ leafB s i_ = (b_ && allF (fun k => !decide (pa s k = i_)) j_ (nE s - j_))) → nE s - j_ < fu → va_P dg vwCl [(m0, .inr (8, [.ref ms, .ref mw, .int xs, .ref mt, .int xt, .int xa, .ref su, .ref pt, .ref td, .ref wy])), (ms, .inl (tq.1, 1445, .inl s))] H → va_S AA sS.heap H locs → lv_has ls 5 [(0, .ref m0), (1, .int (nI k_)), (2, .int (nI i_)), (3, .int (bI b_)), (4, .int (nI j_))] → W pP ln eE (rmm 1 22) sS mM aA bB mT cC H locs 0 0 QQ (F0 mM 21 ls []) := by
          intro fu
          induction fu with
          | zero => intro j_ b_ H locs ls _ hm; exact absurd hm (Nat.not_lt_zero _)
          | succ fu ih21 =>
            intro j_ b_ H locs ls hinv hm hP hS hl
            obtain ⟨hj1, hj2, hj3⟩ := hinv
            refine lv_iload hx hb dX8_leaves_21 (lv_at hl 4 rfl) ?_
            refine lv_aload_n hx hb dX8_leaves_23 rfl (lv_at hl 0 rfl) ?_
            refine va_get (D := dg) (ci := 8) (v := .ref ms) (C := RX8) (T := TX8) (N := 10) hx hb hts in8 hown hK hP 0 rfl rfl 0 (by decide) f7 (fun _ h9 => h9) rfl dX8_leaves_24 ?_
            refine lv_iconst (v := (nI 0)) hx hb dX8_leaves_27 (by decide) ?_
            refine r_iald_n hx hb hK hP 1 rfl (k := 0) (by omega) (by omega) dX8_leaves_28 ?_
            refine r_top (show (s 0) = (nI (nE s)) from (hW.n)) ?_
            refine r_icmp_ge (tgt := 59) hx hb (nI_tI (by omega)) (nI_tI (by omega)) dX8_leaves_29 (by decide) (fun c29 => ?_) (fun c29 => ?_)
            · skip
              have hj3 : leafB s i_ = b_ := by rw [hj3, show nE s - j_ = 0 by omega]; simp [allF]
              refine lv_iload_n hx hb dX8_leaves_59 rfl (lv_at hl 1 rfl) ?_
              refine lv_iload_n hx hb dX8_leaves_60 rfl (lv_at hl 3 rfl) ?_
              refine r_if_eq_b (tgt := 68) hx hb dX8_leaves_61 (by decide) (fun c61 => ?_) (fun c61 => ?_)
              · skip
                have c61 : leafB s i_ = false := hj3.trans c61
                refine lv_iconst (v := (nI 0)) hx hb dX8_leaves_68 (by decide) ?_
                refine r_iadd_n hx hb dX8_leaves_69 ?_
                refine lv_istore_n (lv' := [(1, .int (nI (k_ + 0))), (0, .ref m0), (2, .int (nI i_)), (3, .int (bI b_)), (4, .int (nI j_))]) hx hb dX8_leaves_70 rfl hl (by decide) rfl (fun ls hl => ?_)
                refine lv_iinc (v := (nI (i_ + 1))) (lv' := [(2, .int (nI (i_ + 1))), (1, .int (nI (k_ + 0))), (0, .ref m0), (3, .int (bI b_)), (4, .int (nI j_))]) hx hb dX8_leaves_71 hl (k := 2) rfl (nI_add _ _) (by decide) rfl (fun ls hl => ?_)
                refine lv_goto (tgt := 4) hx hb dX8_leaves_74 (by decide) ?_
                exact ih4 (k_ + 0) (i_ + 1) H locs ls (⟨by simp [cntF, c61, hi1], by omega⟩) (by omega) (hP.sub [0, 1] rfl) hS (lv_sub hl [2, 1, 0] rfl)
              · skip
                have c61 : leafB s i_ = true := hj3.trans c61
                refine lv_iconst (v := (nI 1)) hx hb dX8_leaves_64 (by decide) ?_
                refine lv_goto (tgt := 69) hx hb dX8_leaves_65 (by decide) ?_
                refine r_iadd_n hx hb dX8_leaves_69 ?_
                refine lv_istore_n (lv' := [(1, .int (nI (k_ + 1))), (0, .ref m0), (2, .int (nI i_)), (3, .int (bI b_)), (4, .int (nI j_))]) hx hb dX8_leaves_70 rfl hl (by decide) rfl (fun ls hl => ?_)
                refine lv_iinc (v := (nI (i_ + 1))) (lv' := [(2, .int (nI (i_ + 1))), (1, .int (nI (k_ + 1))), (0, .ref m0), (3, .int (bI b_)), (4, .int (nI j_))]) hx hb dX8_leaves_71 hl (k := 2) rfl (nI_add _ _) (by decide) rfl (fun ls hl => ?_)
                refine lv_goto (tgt := 4) hx hb dX8_leaves_74 (by decide) ?_
                exact ih4 (k_ + 1) (i_ + 1) H locs ls (⟨by simp [cntF, c61, hi1], by omega⟩) (by omega) (hP.sub [0, 1] rfl) hS (lv_sub hl [2, 1, 0] rfl)
            · skip
              refine lv_iload_n hx hb dX8_leaves_32 rfl (lv_at hl 3 rfl) ?_
              refine r_if_eq_b (tgt := 51) hx hb dX8_leaves_33 (by decide) (fun c33 => ?_) (fun c33 => ?_)
              · skip
                refine lv_iconst (v := (nI 0)) hx hb dX8_leaves_51 (by decide) ?_
                refine lv_istore_n (lv' := [(3, .int (nI 0)), (0, .ref m0), (1, .int (nI k_)), (2, .int (nI i_)), (4, .int (nI j_))]) hx hb dX8_leaves_52 rfl hl (by decide) rfl (fun ls hl => ?_)
                have hl : lv_has ls 5 [(3, .int (bI false)), (0, .ref m0), (1, .int (nI k_)), (2, .int (nI i_)), (4, .int (nI j_))] := by have el : (nI 0) = (bI false) := (rfl); rw [← el]; exact hl
                refine lv_iinc (v := (nI (j_ + 1))) (lv' := [(4, .int (nI (j_ + 1))), (3, .int (bI false)), (0, .ref m0), (1, .int (nI k_)), (2, .int (nI i_))]) hx hb dX8_leaves_53 hl (k := 4) rfl (nI_add _ _) (by decide) rfl (fun ls hl => ?_)
                refine lv_goto (tgt := 21) hx hb dX8_leaves_56 (by decide) ?_
                exact ih21 (j_ + 1) false H locs ls (⟨by omega, by omega, by rw [hj3, c33, Bool.false_and, Bool.false_and]⟩) (by omega) (hP.sub [0, 1] rfl) hS (lv_sub hl [2, 3, 4, 1, 0] rfl)
              · skip
                refine lv_aload_n hx hb dX8_leaves_36 rfl (lv_at hl 0 rfl) ?_
                refine lv_iload hx hb dX8_leaves_37 (lv_at hl 4 rfl) ?_
                refine lv_iconst (v := (nI 0)) hx hb dX8_leaves_39 (by decide) ?_
                refine call_x (va_runV (As := [.int (nI j_), .int (nI 0)]) (rest := []) ⟨hx, hb, hml, hown, hts⟩ (kX8_en ln dg tq (m0 := m0) (ms := ms) (mw := mw) (mt := mt) (su := su) (pt := pt) (td := td) (wy := wy) (xs := xs) (xt := xt) (xa := xa) (s := s) (e := j_) (f := 0) (he := (by omega)) (hf := (by omega)) H.size) (cwV 2 hts gX8_leaves_X8_en rfl rfl rfl hdX8_en ⟨Nat.le_of_ble_eq_true rfl, Nat.le_of_ble_eq_true rfl⟩) (preVR hK hN hP [0, 1] rfl 0 rfl rfl [.int (nI j_), .int (nI 0)]) rfl rfl hl.1 rfl (lv_room (Nat.le_of_ble_eq_true rfl)) dX8_leaves_40 ⟨Nat.le_refl _, Nat.le_refl _⟩) hP hS hA (fun H locs hP hS => ?_)
                refine r_top (show (s (5 + 7 * j_ + 0)) = (nI (pa s j_)) from hW.p (by omega) (by omega)) ?_
                refine lv_iload_n hx hb dX8_leaves_43 rfl (lv_at hl 2 rfl) ?_
                have hpl := hW.pl (e := j_) (by omega) (by omega)
                refine r_icmp_eq (tgt := 51) hx hb (nI_tI (by omega)) (nI_tI (by omega)) dX8_leaves_44 (by decide) (fun c44 => ?_) (fun c44 => ?_)
                · skip
                  refine lv_iconst (v := (nI 0)) hx hb dX8_leaves_51 (by decide) ?_
                  refine lv_istore_n (lv' := [(3, .int (nI 0)), (0, .ref m0), (1, .int (nI k_)), (2, .int (nI i_)), (4, .int (nI j_))]) hx hb dX8_leaves_52 rfl hl (by decide) rfl (fun ls hl => ?_)
                  have hl : lv_has ls 5 [(3, .int (bI false)), (0, .ref m0), (1, .int (nI k_)), (2, .int (nI i_)), (4, .int (nI j_))] := by have el : (nI 0) = (bI false) := (rfl); rw [← el]; exact hl
                  refine lv_iinc (v := (nI (j_ + 1))) (lv' := [(4, .int (nI (j_ + 1))), (3, .int (bI false)), (0, .ref m0), (1, .int (nI k_)), (2, .int (nI i_))]) hx hb dX8_leaves_53 hl (k := 4) rfl (nI_add _ _) (by decide) rfl (fun ls hl => ?_)
                  refine lv_goto (tgt := 21) hx hb dX8_leaves_56 (by decide) ?_
                  exact ih21 (j_ + 1) false H locs ls (⟨by omega, by omega, by rw [hj3, c33, show nE s - j_ = (nE s - (j_ + 1)) + 1 by omega, allF, decide_eq_true (show pa s j_ = i_ by omega)]; rfl⟩) (by omega) (hP.sub [0, 1] rfl) hS (lv_sub hl [2, 3, 4, 1, 0] rfl)
                · skip
                  refine lv_iconst (v := (nI 1)) hx hb dX8_leaves_47 (by decide) ?_
                  refine lv_goto (tgt := 52) hx hb dX8_leaves_48 (by decide) ?_
                  refine lv_istore_n (lv' := [(3, .int (nI 1)), (0, .ref m0), (1, .int (nI k_)), (2, .int (nI i_)), (4, .int (nI j_))]) hx hb dX8_leaves_52 rfl hl (by decide) rfl (fun ls hl => ?_)
                  have hl : lv_has ls 5 [(3, .int (bI true)), (0, .ref m0), (1, .int (nI k_)), (2, .int (nI i_)), (4, .int (nI j_))] := by have el : (nI 1) = (bI true) := (rfl); rw [← el]; exact hl
                  refine lv_iinc (v := (nI (j_ + 1))) (lv' := [(4, .int (nI (j_ + 1))), (3, .int (bI true)), (0, .ref m0), (1, .int (nI k_)), (2, .int (nI i_))]) hx hb dX8_leaves_53 hl (k := 4) rfl (nI_add _ _) (by decide) rfl (fun ls hl => ?_)
                  refine lv_goto (tgt := 21) hx hb dX8_leaves_56 (by decide) ?_
                  exact ih21 (j_ + 1) true H locs ls (⟨by omega, by omega, by rw [hj3, c33, show nE s - j_ = (nE s - (j_ + 1)) + 1 by omega, allF, decide_eq_false (show ¬ pa s j_ = i_ by omega)]; rfl⟩) (by omega) (hP.sub [0, 1] rfl) hS (lv_sub hl [2, 3, 4, 1, 0] rfl)
        exact loop21 _ (i_ + 1) true H locs ls (⟨by omega, by omega, by rw [Bool.true_and]; rfl⟩) (Nat.lt_succ_self _) (hP.sub [0, 1] rfl) hS (lv_sub hl [2, 3, 4, 1, 0] rfl)
  exact loop4 _ 0 0 H locs ls (⟨rfl, by omega⟩) (Nat.lt_succ_self _) (hP.sub [0, 1] rfl) hS (lv_sub hl [2, 1, 0] rfl)
theorem hdX8_wrong : yX8_wrong.cls = RX8 ∧ yX8_wrong.cls ≠ "java/lang/invoke/MethodHandle" ∧ yX8_wrong.cls ≠ "java/lang/invoke/VarHandle" ∧ (parseMethodDescriptor yX8_wrong.desc).map (fun d => d.parameters.length) = some 1 := by decide +kernel
set_option maxHeartbeats 4000000 in
set_option maxRecDepth 100000 in
theorem kX8_wrong (ln : Launch) (dg : va_G) (tq : ClassId × ClassId) (m0 ms mw mt su pt td wy : Nat) (xs xt xa : Int32) (s : Row) (hW : WF s) (f1 : Bool) : MR ln yX8_wrong wsX8_wrong (rmm 2 43) dg tq [.ref m0, .int (bI f1)] [(m0, .inr (8, [.ref ms, .ref mw, .int xs, .ref mt, .int xt, .int xa, .ref su, .ref pt, .ref td, .ref wy])), (ms, .inl (tq.1, 1445, .inl s))] (fun r => r = (if f1 = true then fstF (fun e => !fitE s e) 0 (nE s) else nI (cntF (fun e => !fitE s e) (nE s)))) := by
  refine MR.enter cX8_wrong 6 .int (by decide) rfl rfl (Nat.le_of_ble_eq_true rfl) ?_
  intro pP eE sS mM aA bB mT cC QQ AA hA hAT hret H locs hP hS ls hl
  obtain ⟨hx, hb, hml, hown, hts, hK, hN⟩ := hAT
  have hown : sS.vm.findClass RX8 = some mM.cls := hown
  have hl : lv_has ls 6 [(0, .ref m0), (1, .int (bI f1))] := hl
  have in8 : ∀ w ∈ u_ws RX8 TX8 10, w ∈ wsX8_wrong := (fun _ h9 => List.mem_cons_of_mem _ (List.mem_append_right _ h9))
  have k32 := hts (.constant RX8 32 (-100009)) (List.mem_of_getElem? (i := 1) rfl)
  have f7 := hts (.fieldLink RX8 7 "OrphanChainModel" "s" "[I") (List.mem_of_getElem? (i := 2) rfl)
  have hn60 := hW.n60
  have hb10 := hW.b10
  have hs8 := hW.s8
  have hhn := hW.hn
  refine lv_iconst (v := (nI 0)) hx hb dX8_wrong_0 (by decide) ?_
  refine lv_istore_n (lv' := [(2, .int (nI 0)), (0, .ref m0), (1, .int (bI f1))]) hx hb dX8_wrong_1 rfl hl (by decide) rfl (fun ls hl => ?_)
  refine lv_ldc hx hb hown k32 dX8_wrong_2 ?_
  refine lv_istore_n (lv' := [(3, .int (-100009)), (2, .int (nI 0)), (0, .ref m0), (1, .int (bI f1))]) hx hb dX8_wrong_4 rfl hl (by decide) rfl (fun ls hl => ?_)
  refine lv_aload_n hx hb dX8_wrong_5 rfl (lv_at hl 2 rfl) ?_
  refine va_get (D := dg) (ci := 8) (v := .ref ms) (C := RX8) (T := TX8) (N := 10) hx hb hts in8 hown hK hP 0 rfl rfl 0 (by decide) f7 (fun _ h9 => h9) rfl dX8_wrong_6 ?_
  refine lv_iconst (v := (nI 0)) hx hb dX8_wrong_9 (by decide) ?_
  refine r_iald_n hx hb hK hP 1 rfl (k := 0) (by omega) (by omega) dX8_wrong_10 ?_
  refine r_top (show (s 0) = (nI (nE s)) from (hW.n)) ?_
  refine lv_iconst (v := (nI 1)) hx hb dX8_wrong_11 (by decide) ?_
  refine r_isub_z hx hb (nI_iI _) (nI_iI _) dX8_wrong_12 ?_
  refine lv_istore (lv' := [(4, .int (iI (((nE s : Nat) : Int) - ((1 : Nat) : Int)))), (3, .int (-100009)), (2, .int (nI 0)), (0, .ref m0), (1, .int (bI f1))]) hx hb dX8_wrong_13 hl (by decide) rfl (fun ls hl => ?_)
  have loop15 : ∀ (fu : Nat) (j_ : Nat) (n_ : Nat) (x_ : Int32) (H : Heap) (locs : List Loc) (ls : Array Slot), (j_ ≤ nE s ∧ n_ + cntF (fun e => !fitE s e) j_ = cntF (fun e => !fitE s e) (nE s) ∧ x_ = fstF (fun e => !fitE s e) j_ (nE s - j_)) → j_ < fu → va_P dg vwCl [(m0, .inr (8, [.ref ms, .ref mw, .int xs, .ref mt, .int xt, .int xa, .ref su, .ref pt, .ref td, .ref wy])), (ms, .inl (tq.1, 1445, .inl s))] H → va_S AA sS.heap H locs → lv_has ls 6 [(0, .ref m0), (1, .int (bI f1)), (2, .int (nI n_)), (3, .int x_), (4, .int (iI (((j_ : Nat) : Int) - ((1 : Nat) : Int))))] → W pP ln eE (rmm 2 43) sS mM aA bB mT cC H locs 0 0 QQ (F0 mM 15 ls []) := by
    intro fu
    induction fu with
    | zero => intro j_ n_ x_ H locs ls _ hm; exact absurd hm (Nat.not_lt_zero _)
    | succ fu ih15 =>
      intro j_ n_ x_ H locs ls hinv hm hP hS hl
      obtain ⟨hi1, hi2, hi3⟩ := hinv
      refine lv_iload hx hb dX8_wrong_15 (lv_at hl 4 rfl) ?_
      refine r_if_lt (tgt := 74) hx hb (iI_toInt (by omega) (by omega)) dX8_wrong_17 (by decide) (fun c17 => ?_) (fun c17 => ?_)
      · skip
        refine lv_iload_n hx hb dX8_wrong_74 rfl (lv_at hl 1 rfl) ?_
        refine r_if_eq_b (tgt := 82) hx hb dX8_wrong_75 (by decide) (fun c75 => ?_) (fun c75 => ?_)
        · skip
          refine lv_iload_n hx hb dX8_wrong_82 rfl (lv_at hl 2 rfl) ?_
          exact hret (nI n_) H locs _ ls (by rw [show j_ = 0 by omega] at hi2 hi3; rw [c75]; rw [if_neg (by decide)]; exact congrArg nI hi2) rfl hS dX8_wrong_83
        · skip
          refine lv_iload_n hx hb dX8_wrong_78 rfl (lv_at hl 3 rfl) ?_
          refine lv_goto (tgt := 83) hx hb dX8_wrong_79 (by decide) ?_
          exact hret x_ H locs _ ls (by rw [show j_ = 0 by omega] at hi2 hi3; rw [c75]; rw [if_pos rfl, hi3]; rfl) rfl hS dX8_wrong_83
      · skip
        refine lv_aload_n hx hb dX8_wrong_20 rfl (lv_at hl 0 rfl) ?_
        refine lv_iload hx hb dX8_wrong_21 (lv_at hl 4 rfl) ?_
        refine r_top (show (iI (((j_ : Nat) : Int) - ((1 : Nat) : Int))) = (nI (j_ - 1)) from iI_n (by omega)) ?_
        refine lv_iconst (v := (nI 5)) hx hb dX8_wrong_23 (by decide) ?_
        refine call_x (va_runV (As := [.int (nI (j_ - 1)), .int (nI 5)]) (rest := []) ⟨hx, hb, hml, hown, hts⟩ (kX8_en ln dg tq (m0 := m0) (ms := ms) (mw := mw) (mt := mt) (su := su) (pt := pt) (td := td) (wy := wy) (xs := xs) (xt := xt) (xa := xa) (s := s) (e := j_ - 1) (f := 5) (he := (by omega)) (hf := (by omega)) H.size) (cwV 2 hts gX8_wrong_X8_en rfl rfl rfl hdX8_en ⟨Nat.le_of_ble_eq_true rfl, Nat.le_of_ble_eq_true rfl⟩) (preVR hK hN hP [0, 1] rfl 0 rfl rfl [.int (nI (j_ - 1)), .int (nI 5)]) rfl rfl hl.1 rfl (lv_room (Nat.le_of_ble_eq_true rfl)) dX8_wrong_24 ⟨Nat.le_refl _, Nat.le_refl _⟩) hP hS hA (fun H locs hP hS => ?_)
        refine r_top (show (s (5 + 7 * (j_ - 1) + 5)) = (me s (j_ - 1) 5) from rfl) ?_
        refine lv_aload_n hx hb dX8_wrong_27 rfl (lv_at hl 0 rfl) ?_
        refine lv_iload hx hb dX8_wrong_28 (lv_at hl 4 rfl) ?_
        refine r_top (show (iI (((j_ : Nat) : Int) - ((1 : Nat) : Int))) = (nI (j_ - 1)) from iI_n (by omega)) ?_
        refine call_x (va_runV (As := [.int (nI (j_ - 1))]) (rest := [.int (me s (j_ - 1) 5)]) ⟨hx, hb, hml, hown, hts⟩ (kX8_fitting ln dg tq (m0 := m0) (ms := ms) (mw := mw) (mt := mt) (su := su) (pt := pt) (td := td) (wy := wy) (xs := xs) (xt := xt) (xa := xa) (s := s) (e := j_ - 1) (p := pa s (j_ - 1)) (he := (by omega)) (hp := (fun h0 => hW.p h0 (by omega))) (hp2 := (fun h0 => by have hpl := hW.pl h0 (by omega); omega)) H.size) (cwV 1 hts gX8_wrong_X8_fitting rfl rfl rfl hdX8_fitting ⟨Nat.le_of_ble_eq_true rfl, Nat.le_of_ble_eq_true rfl⟩) (preVR hK hN hP [0, 1] rfl 0 rfl rfl [.int (nI (j_ - 1))]) rfl rfl hl.1 rfl (lv_room (Nat.le_of_ble_eq_true rfl)) dX8_wrong_30 ⟨Nat.le_refl _, Nat.le_refl _⟩) hP hS hA (fun H locs hP hS => ?_)
        refine r_top (show (mfit s (j_ - 1) (pa s (j_ - 1))) = (fit s (j_ - 1)) from mfit_eq s (j_ - 1)) ?_
        refine lv_icmp_eq (tgt := 40) hx hb dX8_wrong_33 (by decide) (fun c33 => ?_) (fun c33 => ?_)
        · skip
          refine lv_iconst (v := (nI 0)) hx hb dX8_wrong_40 (by decide) ?_
          refine lv_istore (lv' := [(5, .int (nI 0)), (0, .ref m0), (1, .int (bI f1)), (2, .int (nI n_)), (3, .int x_), (4, .int (iI (((j_ : Nat) : Int) - ((1 : Nat) : Int))))]) hx hb dX8_wrong_41 hl (by decide) rfl (fun ls hl => ?_)
          refine lv_iload_n hx hb dX8_wrong_43 rfl (lv_at hl 3 rfl) ?_
          refine lv_iload hx hb dX8_wrong_44 (lv_at hl 0 rfl) ?_
          refine r_if_eq (tgt := 53) hx hb (nI_tI (by omega)) dX8_wrong_46 (by decide) (fun c46 => ?_) (fun c46 => False.elim (by omega))
          refine lv_iconst (v := (nI 0)) hx hb dX8_wrong_53 (by decide) ?_
          refine r_iadd_n hx hb dX8_wrong_54 ?_
          refine lv_istore_n (lv' := [(2, .int (nI (n_ + 0))), (5, .int (nI 0)), (0, .ref m0), (1, .int (bI f1)), (3, .int x_), (4, .int (iI (((j_ : Nat) : Int) - ((1 : Nat) : Int))))]) hx hb dX8_wrong_55 rfl hl (by decide) rfl (fun ls hl => ?_)
          refine lv_iload hx hb dX8_wrong_56 (lv_at hl 1 rfl) ?_
          refine r_if_eq (tgt := 66) hx hb (nI_tI (by omega)) dX8_wrong_58 (by decide) (fun c58 => ?_) (fun c58 => False.elim (by omega))
          refine lv_iload_n hx hb dX8_wrong_66 rfl (lv_at hl 4 rfl) ?_
          refine lv_istore_n (lv' := [(3, .int x_), (2, .int (nI (n_ + 0))), (5, .int (nI 0)), (0, .ref m0), (1, .int (bI f1)), (4, .int (iI (((j_ : Nat) : Int) - ((1 : Nat) : Int))))]) hx hb dX8_wrong_67 rfl hl (by decide) rfl (fun ls hl => ?_)
          refine lv_iinc (v := (iI ((((j_ : Nat) : Int) - ((1 : Nat) : Int)) + (-1)))) (lv' := [(4, .int (iI ((((j_ : Nat) : Int) - ((1 : Nat) : Int)) + (-1)))), (3, .int x_), (2, .int (nI (n_ + 0))), (5, .int (nI 0)), (0, .ref m0), (1, .int (bI f1))]) hx hb dX8_wrong_68 hl (k := 5) rfl (iI_add _ _) (by decide) rfl (fun ls hl => ?_)
          have hl : lv_has ls 6 [(4, .int (iI (((j_ - 1 : Nat) : Int) - ((1 : Nat) : Int)))), (3, .int x_), (2, .int (nI (n_ + 0))), (5, .int (nI 0)), (0, .ref m0), (1, .int (bI f1))] := by have el : (iI ((((j_ : Nat) : Int) - ((1 : Nat) : Int)) + (-1))) = (iI (((j_ - 1 : Nat) : Int) - ((1 : Nat) : Int))) := (congrArg iI (by omega)); rw [← el]; exact hl
          refine lv_goto (tgt := 15) hx hb dX8_wrong_71 (by decide) ?_
          exact ih15 (j_ - 1) (n_ + 0) x_ H locs ls (⟨by omega, by have e := cntF_one (f := fun e => !fitE s e) (j := j_) (by omega); rw [show (!fitE s (j_ - 1)) = false by unfold fitE; rw [decide_eq_true c33]; rfl] at e; simp at e; omega, by rw [show nE s - (j_ - 1) = (nE s - j_) + 1 by omega, fstF, show (!fitE s (j_ - 1)) = false by unfold fitE; rw [decide_eq_true c33]; rfl, show j_ - 1 + 1 = j_ by omega, ← hi3]; rfl⟩) (by omega) (hP.sub [0, 1] rfl) hS (lv_sub hl [4, 5, 2, 1, 0] rfl)
        · skip
          refine lv_iconst (v := (nI 1)) hx hb dX8_wrong_36 (by decide) ?_
          refine lv_goto (tgt := 41) hx hb dX8_wrong_37 (by decide) ?_
          refine lv_istore (lv' := [(5, .int (nI 1)), (0, .ref m0), (1, .int (bI f1)), (2, .int (nI n_)), (3, .int x_), (4, .int (iI (((j_ : Nat) : Int) - ((1 : Nat) : Int))))]) hx hb dX8_wrong_41 hl (by decide) rfl (fun ls hl => ?_)
          refine lv_iload_n hx hb dX8_wrong_43 rfl (lv_at hl 3 rfl) ?_
          refine lv_iload hx hb dX8_wrong_44 (lv_at hl 0 rfl) ?_
          refine r_if_eq (tgt := 53) hx hb (nI_tI (by omega)) dX8_wrong_46 (by decide) (fun c46 => False.elim (by omega)) (fun c46 => ?_)
          refine lv_iconst (v := (nI 1)) hx hb dX8_wrong_49 (by decide) ?_
          refine lv_goto (tgt := 54) hx hb dX8_wrong_50 (by decide) ?_
          refine r_iadd_n hx hb dX8_wrong_54 ?_
          refine lv_istore_n (lv' := [(2, .int (nI (n_ + 1))), (5, .int (nI 1)), (0, .ref m0), (1, .int (bI f1)), (3, .int x_), (4, .int (iI (((j_ : Nat) : Int) - ((1 : Nat) : Int))))]) hx hb dX8_wrong_55 rfl hl (by decide) rfl (fun ls hl => ?_)
          refine lv_iload hx hb dX8_wrong_56 (lv_at hl 1 rfl) ?_
          refine r_if_eq (tgt := 66) hx hb (nI_tI (by omega)) dX8_wrong_58 (by decide) (fun c58 => False.elim (by omega)) (fun c58 => ?_)
          refine lv_iload hx hb dX8_wrong_61 (lv_at hl 5 rfl) ?_
          refine r_top (show (iI (((j_ : Nat) : Int) - ((1 : Nat) : Int))) = (nI (j_ - 1)) from iI_n (by omega)) ?_
          refine lv_goto (tgt := 67) hx hb dX8_wrong_63 (by decide) ?_
          refine lv_istore_n (lv' := [(3, .int (nI (j_ - 1))), (2, .int (nI (n_ + 1))), (5, .int (nI 1)), (0, .ref m0), (1, .int (bI f1)), (4, .int (iI (((j_ : Nat) : Int) - ((1 : Nat) : Int))))]) hx hb dX8_wrong_67 rfl hl (by decide) rfl (fun ls hl => ?_)
          refine lv_iinc (v := (iI ((((j_ : Nat) : Int) - ((1 : Nat) : Int)) + (-1)))) (lv' := [(4, .int (iI ((((j_ : Nat) : Int) - ((1 : Nat) : Int)) + (-1)))), (3, .int (nI (j_ - 1))), (2, .int (nI (n_ + 1))), (5, .int (nI 1)), (0, .ref m0), (1, .int (bI f1))]) hx hb dX8_wrong_68 hl (k := 5) rfl (iI_add _ _) (by decide) rfl (fun ls hl => ?_)
          have hl : lv_has ls 6 [(4, .int (iI (((j_ - 1 : Nat) : Int) - ((1 : Nat) : Int)))), (3, .int (nI (j_ - 1))), (2, .int (nI (n_ + 1))), (5, .int (nI 1)), (0, .ref m0), (1, .int (bI f1))] := by have el : (iI ((((j_ : Nat) : Int) - ((1 : Nat) : Int)) + (-1))) = (iI (((j_ - 1 : Nat) : Int) - ((1 : Nat) : Int))) := (congrArg iI (by omega)); rw [← el]; exact hl
          refine lv_goto (tgt := 15) hx hb dX8_wrong_71 (by decide) ?_
          exact ih15 (j_ - 1) (n_ + 1) (nI (j_ - 1)) H locs ls (⟨by omega, by have e := cntF_one (f := fun e => !fitE s e) (j := j_) (by omega); rw [show (!fitE s (j_ - 1)) = true by unfold fitE; rw [decide_eq_false c33]; rfl] at e; simp at e; omega, by rw [show nE s - (j_ - 1) = (nE s - j_) + 1 by omega, fstF, show (!fitE s (j_ - 1)) = true by unfold fitE; rw [decide_eq_false c33]; rfl]; rfl⟩) (by omega) (hP.sub [0, 1] rfl) hS (lv_sub hl [4, 5, 2, 1, 0] rfl)
  exact loop15 _ (nE s) 0 (-100009) H locs ls (⟨by omega, by omega, by rw [Nat.sub_self]; rfl⟩) (Nat.lt_succ_self _) (hP.sub [0, 1] rfl) hS (lv_sub hl [3, 4, 2, 1, 0] rfl)
theorem hdX8_waitingAt : yX8_waitingAt.cls = RX8 ∧ yX8_waitingAt.cls ≠ "java/lang/invoke/MethodHandle" ∧ yX8_waitingAt.cls ≠ "java/lang/invoke/VarHandle" ∧ (parseMethodDescriptor yX8_waitingAt.desc).map (fun d => d.parameters.length) = some 1 := by decide +kernel
set_option maxHeartbeats 4000000 in
set_option maxRecDepth 100000 in
theorem kX8_waitingAt (ln : Launch) (dg : va_G) (tq : ClassId × ClassId) (m0 ms mw mt su pt td wy : Nat) (xs xt xa : Int32) (s : Row) (hW : WF s) (k : Nat) (hk : k < nW s) : MR ln yX8_waitingAt wsX8_waitingAt (rmm 2 43) dg tq [.ref m0, .int (nI k)] [(m0, .inr (8, [.ref ms, .ref mw, .int xs, .ref mt, .int xt, .int xa, .ref su, .ref pt, .ref td, .ref wy])), (ms, .inl (tq.1, 1445, .inl s))] (fun r => r = (nI (wB s k))) := by
  refine MR.enter cX8_waitingAt 4 .int (by decide) rfl rfl (Nat.le_of_ble_eq_true rfl) ?_
  intro pP eE sS mM aA bB mT cC QQ AA hA hAT hret H locs hP hS ls hl
  obtain ⟨hx, hb, hml, hown, hts, hK, hN⟩ := hAT
  have hown : sS.vm.findClass RX8 = some mM.cls := hown
  have hl : lv_has ls 4 [(0, .ref m0), (1, .int (nI k))] := hl
  have hn60 := hW.n60
  have hb10 := hW.b10
  have hs8 := hW.s8
  have hhn := hW.hn
  obtain ⟨hb1, hb2, hb3⟩ := wB_in hk
  have hk10 := Nat.lt_of_lt_of_le hk (nW_le s)
  refine lv_iload_n hx hb dX8_waitingAt_0 rfl (lv_at hl 1 rfl) ?_
  refine lv_istore_n (lv' := [(2, .int (nI k)), (0, .ref m0), (1, .int (nI k))]) hx hb dX8_waitingAt_1 rfl hl (by decide) rfl (fun ls hl => ?_)
  refine lv_iconst (v := (nI 0)) hx hb dX8_waitingAt_2 (by decide) ?_
  refine lv_istore_n (lv' := [(3, .int (nI 0)), (2, .int (nI k)), (0, .ref m0), (1, .int (nI k))]) hx hb dX8_waitingAt_3 rfl hl (by decide) rfl (fun ls hl => ?_)
  have loop4 : ∀ (fu : Nat) (b_ : Nat) (l_ : Nat) (H : Heap) (locs : List Loc) (ls : Array Slot), (b_ ≤ wB s k ∧ l_ + cntF (waitB s) b_ = k) → wB s k - b_ < fu → va_P dg vwCl [(m0, .inr (8, [.ref ms, .ref mw, .int xs, .ref mt, .int xt, .int xa, .ref su, .ref pt, .ref td, .ref wy])), (ms, .inl (tq.1, 1445, .inl s))] H → va_S AA sS.heap H locs → lv_has ls 4 [(0, .ref m0), (1, .int (nI k)), (2, .int (nI l_)), (3, .int (nI b_))] → W pP ln eE (rmm 2 43) sS mM aA bB mT cC H locs 0 0 QQ (F0 mM 4 ls []) := by
    intro fu
    induction fu with
    | zero => intro b_ l_ H locs ls _ hm; exact absurd hm (Nat.not_lt_zero _)
    | succ fu ih4 =>
      intro b_ l_ H locs ls hinv hm hP hS hl
      obtain ⟨hi1, hi2⟩ := hinv
      refine lv_aload_n hx hb dX8_waitingAt_4 rfl (lv_at hl 0 rfl) ?_
      refine lv_iload_n hx hb dX8_waitingAt_5 rfl (lv_at hl 3 rfl) ?_
      refine call_x (va_runV (As := [.int (nI b_)]) (rest := []) ⟨hx, hb, hml, hown, hts⟩ (kX8_isWaiting ln dg tq (m0 := m0) (ms := ms) (mw := mw) (mt := mt) (su := su) (pt := pt) (td := td) (wy := wy) (xs := xs) (xt := xt) (xa := xa) (s := s) (b := b_) (hb0 := (by omega)) H.size) (cwV 1 hts gX8_waitingAt_X8_isWaiting rfl rfl rfl hdX8_isWaiting ⟨Nat.le_of_ble_eq_true rfl, Nat.le_of_ble_eq_true rfl⟩) (preVR hK hN hP [0, 1] rfl 0 rfl rfl [.int (nI b_)]) rfl rfl hl.1 rfl (lv_room (Nat.le_of_ble_eq_true rfl)) dX8_waitingAt_6 ⟨Nat.le_refl _, Nat.le_refl _⟩) hP hS hA (fun H locs hP hS => ?_)
      refine r_if_eq_b (tgt := 16) hx hb dX8_waitingAt_9 (by decide) (fun c9 => ?_) (fun c9 => ?_)
      · skip
        have hnb : b_ < wB s k := by rcases Nat.lt_or_ge b_ (wB s k) with q | q; (exact q); (exfalso; have e : b_ = wB s k := (by omega); rw [e] at c9 hi2; rw [hb2] at c9; cases c9)
        refine lv_iload_n hx hb dX8_waitingAt_16 rfl (lv_at hl 2 rfl) ?_
        refine lv_aload_n hx hb dX8_waitingAt_17 rfl (lv_at hl 0 rfl) ?_
        refine lv_iload_n hx hb dX8_waitingAt_18 rfl (lv_at hl 3 rfl) ?_
        refine call_x (va_runV (As := [.int (nI b_)]) (rest := [.int (nI l_)]) ⟨hx, hb, hml, hown, hts⟩ (kX8_isWaiting ln dg tq (m0 := m0) (ms := ms) (mw := mw) (mt := mt) (su := su) (pt := pt) (td := td) (wy := wy) (xs := xs) (xt := xt) (xa := xa) (s := s) (b := b_) (hb0 := (by omega)) H.size) (cwV 1 hts gX8_waitingAt_X8_isWaiting rfl rfl rfl hdX8_isWaiting ⟨Nat.le_of_ble_eq_true rfl, Nat.le_of_ble_eq_true rfl⟩) (preVR hK hN hP [0, 1] rfl 0 rfl rfl [.int (nI b_)]) rfl rfl hl.1 rfl (lv_room (Nat.le_of_ble_eq_true rfl)) dX8_waitingAt_19 ⟨Nat.le_refl _, Nat.le_refl _⟩) hP hS hA (fun H locs hP hS => ?_)
        refine r_if_eq_b (tgt := 29) hx hb dX8_waitingAt_22 (by decide) (fun c22 => ?_) (fun c22 => False.elim (by rw [c9] at c22; cases c22))
        refine lv_iconst (v := (nI 0)) hx hb dX8_waitingAt_29 (by decide) ?_
        refine r_isub_n hx hb (by omega) dX8_waitingAt_30 ?_
        refine lv_istore_n (lv' := [(2, .int (nI (l_ - 0))), (0, .ref m0), (1, .int (nI k)), (3, .int (nI b_))]) hx hb dX8_waitingAt_31 rfl hl (by decide) rfl (fun ls hl => ?_)
        refine lv_iinc (v := (nI (b_ + 1))) (lv' := [(3, .int (nI (b_ + 1))), (2, .int (nI (l_ - 0))), (0, .ref m0), (1, .int (nI k))]) hx hb dX8_waitingAt_32 hl (k := 3) rfl (nI_add _ _) (by decide) rfl (fun ls hl => ?_)
        refine lv_goto (tgt := 4) hx hb dX8_waitingAt_35 (by decide) ?_
        exact ih4 (b_ + 1) (l_ - 0) H locs ls (⟨by omega, by rw [cntF, if_neg (by rw [c22]; decide)]; omega⟩) (by omega) (hP.sub [0, 1] rfl) hS (lv_sub hl [2, 3, 1, 0] rfl)
      · skip
        refine lv_iload_n hx hb dX8_waitingAt_12 rfl (lv_at hl 2 rfl) ?_
        refine r_if_le (tgt := 38) hx hb (nI_tI (by omega)) dX8_waitingAt_13 (by decide) (fun c13 => ?_) (fun c13 => ?_)
        · skip
          refine lv_iload_n hx hb dX8_waitingAt_38 rfl (lv_at hl 3 rfl) ?_
          exact hret (nI b_) H locs _ ls (by rw [show b_ = wB s k from (wB_min (b := b_) (by omega) c9 (by omega)).symm]) rfl hS dX8_waitingAt_39
        · skip
          have hnb : b_ < wB s k := by rcases Nat.lt_or_ge b_ (wB s k) with q | q; (exact q); (exfalso; have e : b_ = wB s k := (by omega); rw [e] at c9 hi2; omega)
          refine lv_iload_n hx hb dX8_waitingAt_16 rfl (lv_at hl 2 rfl) ?_
          refine lv_aload_n hx hb dX8_waitingAt_17 rfl (lv_at hl 0 rfl) ?_
          refine lv_iload_n hx hb dX8_waitingAt_18 rfl (lv_at hl 3 rfl) ?_
          refine call_x (va_runV (As := [.int (nI b_)]) (rest := [.int (nI l_)]) ⟨hx, hb, hml, hown, hts⟩ (kX8_isWaiting ln dg tq (m0 := m0) (ms := ms) (mw := mw) (mt := mt) (su := su) (pt := pt) (td := td) (wy := wy) (xs := xs) (xt := xt) (xa := xa) (s := s) (b := b_) (hb0 := (by omega)) H.size) (cwV 1 hts gX8_waitingAt_X8_isWaiting rfl rfl rfl hdX8_isWaiting ⟨Nat.le_of_ble_eq_true rfl, Nat.le_of_ble_eq_true rfl⟩) (preVR hK hN hP [0, 1] rfl 0 rfl rfl [.int (nI b_)]) rfl rfl hl.1 rfl (lv_room (Nat.le_of_ble_eq_true rfl)) dX8_waitingAt_19 ⟨Nat.le_refl _, Nat.le_refl _⟩) hP hS hA (fun H locs hP hS => ?_)
          refine r_if_eq_b (tgt := 29) hx hb dX8_waitingAt_22 (by decide) (fun c22 => False.elim (by rw [c9] at c22; cases c22)) (fun c22 => ?_)
          have hl1 : 0 < l_ := by have h1 := cntF_mono (waitB s) (a := b_ + 1) (b := wB s k) (by omega); rw [cntF, if_pos c22] at h1; omega
          refine lv_iconst (v := (nI 1)) hx hb dX8_waitingAt_25 (by decide) ?_
          refine lv_goto (tgt := 30) hx hb dX8_waitingAt_26 (by decide) ?_
          refine r_isub_n hx hb (by omega) dX8_waitingAt_30 ?_
          refine lv_istore_n (lv' := [(2, .int (nI (l_ - 1))), (0, .ref m0), (1, .int (nI k)), (3, .int (nI b_))]) hx hb dX8_waitingAt_31 rfl hl (by decide) rfl (fun ls hl => ?_)
          refine lv_iinc (v := (nI (b_ + 1))) (lv' := [(3, .int (nI (b_ + 1))), (2, .int (nI (l_ - 1))), (0, .ref m0), (1, .int (nI k))]) hx hb dX8_waitingAt_32 hl (k := 3) rfl (nI_add _ _) (by decide) rfl (fun ls hl => ?_)
          refine lv_goto (tgt := 4) hx hb dX8_waitingAt_35 (by decide) ?_
          exact ih4 (b_ + 1) (l_ - 1) H locs ls (⟨by omega, by rw [cntF, if_pos c22]; omega⟩) (by omega) (hP.sub [0, 1] rfl) hS (lv_sub hl [2, 3, 1, 0] rfl)
  exact loop4 _ 0 k H locs ls (⟨by omega, by rfl⟩) (Nat.lt_succ_self _) (hP.sub [0, 1] rfl) hS (lv_sub hl [2, 3, 1, 0] rfl)
theorem hdX8_tries : yX8_tries.cls = RX8 ∧ yX8_tries.cls ≠ "java/lang/invoke/MethodHandle" ∧ yX8_tries.cls ≠ "java/lang/invoke/VarHandle" ∧ (parseMethodDescriptor yX8_tries.desc).map (fun d => d.parameters.length) = some 1 := by decide +kernel
set_option maxHeartbeats 4000000 in
set_option maxRecDepth 100000 in
theorem kX8_tries (ln : Launch) (dg : va_G) (tq : ClassId × ClassId) (m0 ms mw mt su pt td wy : Nat) (xs xt xa : Int32) (s f pp : Row) (hW : WF s) (b : Nat) (hb0 : b < nB s) (v : Nat → Int) (hV : SV f v) (N : Int) (hB : BV v N) (hn9 : N < 1000000000) : MW ln yX8_tries wsX8_tries (rmm 3 68) dg tq [.ref m0, .int (nI b)] [(m0, .inr (8, [.ref ms, .ref mw, .int xs, .ref mt, .int xt, .int xa, .ref su, .ref pt, .ref td, .ref wy])), (ms, .inl (tq.1, 1445, .inl s)), (su, .inl (tq.1, 6, .inl f)), (pt, .inl (tq.1, 60, .inl pp))] (fun (r : Int32) (u : Row × Row) => r = (nI (trN s v (brE s b) (mn s b))) ∧ (SV u.1 (trV s v (brE s b) (mn s b)) ∧ ∀ k, k < trN s v (brE s b) (mn s b) → u.2 k = nI (okE s v (brE s b) (mn s b) k))) (fun u => [(m0, .inr (8, [.ref ms, .ref mw, .int xs, .ref mt, .int xt, .int xa, .ref su, .ref pt, .ref td, .ref wy])), (ms, .inl (tq.1, 1445, .inl s)), (su, .inl (tq.1, 6, .inl u.1)), (pt, .inl (tq.1, 60, .inl u.2))]) := by
  refine MW.enter cX8_tries 5 .int (by decide) rfl rfl (Nat.le_of_ble_eq_true rfl) ?_
  intro pP eE sS mM aA bB mT cC QQ AA hA hAT hret H locs hP hD hS ls hl
  obtain ⟨hx, hb, hml, hown, hts, hK, hN⟩ := hAT
  have hown : sS.vm.findClass RX8 = some mM.cls := hown
  have hl : lv_has ls 5 [(0, .ref m0), (1, .int (nI b))] := hl
  have in8 : ∀ w ∈ u_ws RX8 TX8 10, w ∈ wsX8_tries := (fun _ h9 => List.mem_cons_of_mem _ (List.mem_append_right _ h9))
  have f23 := hts (.fieldLink RX8 23 "OrphanChainModel" "path" "[I") (List.mem_of_getElem? (i := 1) rfl)
  have hn60 := hW.n60
  have hb10 := hW.b10
  have hs8 := hW.s8
  have hhn := hW.hn
  have hmn := hW.mn60 hb0
  refine lv_iconst (v := (nI 0)) hx hb dX8_tries_0 (by decide) ?_
  refine lv_istore_n (lv' := [(2, .int (nI 0)), (0, .ref m0), (1, .int (nI b))]) hx hb dX8_tries_1 rfl hl (by decide) rfl (fun ls hl => ?_)
  refine lv_iconst (v := (nI 0)) hx hb dX8_tries_2 (by decide) ?_
  refine lv_istore_n (lv' := [(3, .int (nI 0)), (2, .int (nI 0)), (0, .ref m0), (1, .int (nI b))]) hx hb dX8_tries_3 rfl hl (by decide) rfl (fun ls hl => ?_)
  have loop4 : ∀ (fu : Nat) (j_ : Nat) (n_ : Nat) (f_ : Row) (p_ : Row) (H : Heap) (locs : List Loc) (ls : Array Slot), (j_ ≤ mn s b ∧ n_ = trN s v (brE s b) j_ ∧ SV f_ (trV s v (brE s b) j_) ∧ (∀ k, k < n_ → p_ k = nI (okE s v (brE s b) j_ k))) → mn s b - j_ < fu → va_P dg vwCl [(m0, .inr (8, [.ref ms, .ref mw, .int xs, .ref mt, .int xt, .int xa, .ref su, .ref pt, .ref td, .ref wy])), (ms, .inl (tq.1, 1445, .inl s)), (su, .inl (tq.1, 6, .inl f_)), (pt, .inl (tq.1, 60, .inl p_))] H → va_D AA [(m0, .inr (8, [.ref ms, .ref mw, .int xs, .ref mt, .int xt, .int xa, .ref su, .ref pt, .ref td, .ref wy])), (ms, .inl (tq.1, 1445, .inl s)), (su, .inl (tq.1, 6, .inl f_)), (pt, .inl (tq.1, 60, .inl p_))] → va_S AA sS.heap H locs → lv_has ls 5 [(0, .ref m0), (1, .int (nI b)), (2, .int (nI n_)), (3, .int (nI j_))] → W pP ln eE (rmm 3 68) sS mM aA bB mT cC H locs 0 0 QQ (F0 mM 4 ls []) := by
    intro fu
    induction fu with
    | zero => intro j_ n_ f_ p_ H locs ls _ hm; exact absurd hm (Nat.not_lt_zero _)
    | succ fu ih4 =>
      intro j_ n_ f_ p_ H locs ls hinv hm hP hD hS hl
      obtain ⟨hi1, hi2, hV2, hi4⟩ := hinv
      refine lv_iload_n hx hb dX8_tries_4 rfl (lv_at hl 3 rfl) ?_
      refine lv_aload_n hx hb dX8_tries_5 rfl (lv_at hl 0 rfl) ?_
      refine lv_iload_n hx hb dX8_tries_6 rfl (lv_at hl 1 rfl) ?_
      refine lv_iconst (v := (nI 1)) hx hb dX8_tries_7 (by decide) ?_
      refine call_x (va_runV (As := [.int (nI b), .int (nI 1)]) (rest := [.int (nI j_)]) ⟨hx, hb, hml, hown, hts⟩ (kX8_br ln dg tq (m0 := m0) (ms := ms) (mw := mw) (mt := mt) (su := su) (pt := pt) (td := td) (wy := wy) (xs := xs) (xt := xt) (xa := xa) (s := s) (b := b) (f := 1) (hb0 := (by omega)) (hf := (by omega)) H.size) (cwV 2 hts gX8_tries_X8_br rfl rfl rfl hdX8_br ⟨Nat.le_of_ble_eq_true rfl, Nat.le_of_ble_eq_true rfl⟩) (preVR hK hN hP [0, 1] rfl 0 rfl rfl [.int (nI b), .int (nI 1)]) rfl rfl hl.1 rfl (lv_room (Nat.le_of_ble_eq_true rfl)) dX8_tries_8 ⟨Nat.le_refl _, Nat.le_refl _⟩) hP hS hA (fun H locs hP hS => ?_)
      refine r_top (show (s (425 + 4 * b + 1)) = (nI (mn s b)) from (hW.br (b := b) (by omega)).2.2.1) ?_
      refine r_icmp_ge (tgt := 63) hx hb (nI_tI (by omega)) (nI_tI (by omega)) dX8_tries_11 (by decide) (fun c11 => ?_) (fun c11 => ?_)
      · skip
        refine lv_iload_n hx hb dX8_tries_63 rfl (lv_at hl 2 rfl) ?_
        exact hret (nI n_) (f_, p_) H locs _ ls (show (nI n_) = (nI (trN s v (brE s b) (mn s b))) ∧ (SV f_ (trV s v (brE s b) (mn s b)) ∧ ∀ k, k < trN s v (brE s b) (mn s b) → p_ k = nI (okE s v (brE s b) (mn s b) k)) from (by rw [show mn s b = j_ by omega]; exact ⟨by rw [hi2], hV2, fun k hk => hi4 k (by rw [hi2]; exact hk)⟩)) rfl (hP.sub [0, 1, 2, 3] rfl) (hD.sub [0, 1, 2, 3] (by decide) rfl) hS dX8_tries_64
      · skip
        refine lv_aload_n hx hb dX8_tries_14 rfl (lv_at hl 0 rfl) ?_
        refine lv_iload_n hx hb dX8_tries_15 rfl (lv_at hl 1 rfl) ?_
        refine lv_iload_n hx hb dX8_tries_16 rfl (lv_at hl 3 rfl) ?_
        refine call_x (va_runV (As := [.int (nI b), .int (nI j_)]) (rest := []) ⟨hx, hb, hml, hown, hts⟩ (kX8_ofBranch ln dg tq (m0 := m0) (ms := ms) (mw := mw) (mt := mt) (su := su) (pt := pt) (td := td) (wy := wy) (xs := xs) (xt := xt) (xa := xa) (s := s) (hW := hW) (b := b) (k := j_) (hb0 := (by omega)) (hk := (by omega)) H.size) (cwV 2 hts gX8_tries_X8_ofBranch rfl rfl rfl hdX8_ofBranch ⟨Nat.le_of_ble_eq_true rfl, Nat.le_of_ble_eq_true rfl⟩) (preVR hK hN hP [0, 1] rfl 0 rfl rfl [.int (nI b), .int (nI j_)]) rfl rfl hl.1 rfl (lv_room (Nat.le_of_ble_eq_true rfl)) dX8_tries_17 ⟨Nat.le_refl _, Nat.le_refl _⟩) hP hS hA (fun H locs hP hS => ?_)
        refine lv_istore (lv' := [(4, .int (nI (brE s b j_))), (0, .ref m0), (1, .int (nI b)), (2, .int (nI n_)), (3, .int (nI j_))]) hx hb dX8_tries_20 hl (by decide) rfl (fun ls hl => ?_)
        have hbe := brE_in hW hb0 (k := j_) (by omega)
        have hB2 := trV_bd hW hB (E := brE s b) (j := j_) (fun k hk => brE_in hW hb0 (by omega))
        have hle := trN_le s v (brE s b) j_
        have ham0 := hW.am0 hbe
        have ham9 := hW.am9 hbe
        refine lv_aload_n hx hb dX8_tries_22 rfl (lv_at hl 1 rfl) ?_
        refine lv_iload hx hb dX8_tries_23 (lv_at hl 0 rfl) ?_
        refine lv_iconst (v := (nI 1)) hx hb dX8_tries_25 (by decide) ?_
        refine call_v (wr := [(pt, .inl (tq.1, 60, .inl p_))]) (va_runV (As := [.int (nI (brE s b j_)), .int (nI 1)]) (rest := []) ⟨hx, hb, hml, hown, hts⟩ (kX8_counts__p ln dg tq (m0 := m0) (ms := ms) (mw := mw) (mt := mt) (su := su) (pt := pt) (td := td) (wy := wy) (xs := xs) (xt := xt) (xa := xa) (s := s) (f := f_) (hW := hW) (v := trV s v (brE s b) j_) (hV := hV2) (e := brE s b j_) (he := (by omega)) H.size) (cwV 2 hts gX8_tries_X8_counts rfl rfl rfl hdX8_counts ⟨Nat.le_of_ble_eq_true rfl, Nat.le_of_ble_eq_true rfl⟩) (preVB hK hN hP hD [0, 1, 2] rfl rfl rfl 0 rfl rfl [.int (nI (brE s b j_)), .int (nI 1)]) rfl rfl hl.1 rfl (lv_room (Nat.le_of_ble_eq_true rfl)) dX8_tries_26 ⟨Nat.le_refl _, Nat.le_refl _⟩) hP hD hS hA [0, 1, 2] [3] rfl rfl (by decide) (by decide) (fun u26 H locs hw26 hP hD hS => ?_)
        obtain ⟨g26, rfl⟩ : ∃ z, z = u26 := ⟨_, rfl⟩
        have hP : va_P dg vwCl [(pt, .inl (tq.1, 60, .inl p_)), (m0, .inr (8, [.ref ms, .ref mw, .int xs, .ref mt, .int xt, .int xa, .ref su, .ref pt, .ref td, .ref wy])), (ms, .inl (tq.1, 1445, .inl s)), (su, .inl (tq.1, 6, .inl g26))] H := hP
        have hD : va_D AA [(pt, .inl (tq.1, 60, .inl p_)), (m0, .inr (8, [.ref ms, .ref mw, .int xs, .ref mt, .int xt, .int xa, .ref su, .ref pt, .ref td, .ref wy])), (ms, .inl (tq.1, 1445, .inl s)), (su, .inl (tq.1, 6, .inl g26))] := hD
        refine lv_aload_n hx hb dX8_tries_29 rfl (lv_at hl 1 rfl) ?_
        refine call_x (va_runV (As := []) (rest := []) ⟨hx, hb, hml, hown, hts⟩ (kX8_isLow ln dg tq (m0 := m0) (ms := ms) (mw := mw) (mt := mt) (su := su) (pt := pt) (td := td) (wy := wy) (xs := xs) (xt := xt) (xa := xa) (f := g26) (v := addV s (trV s v (brE s b) j_) (brE s b j_)) (hV := hw26) (hr := (fun a ha => by have h1 := hB2 a ha; unfold addV ctr; split <;> split <;> omega)) H.size) (cwV 0 hts gX8_tries_X8_isLow rfl rfl rfl hdX8_isLow ⟨Nat.le_of_ble_eq_true rfl, Nat.le_of_ble_eq_true rfl⟩) (preVR hK hN hP [1, 3] rfl 1 rfl rfl []) rfl rfl hl.1 rfl (lv_room (Nat.le_of_ble_eq_true rfl)) dX8_tries_30 ⟨Nat.le_refl _, Nat.le_refl _⟩) hP hS hA (fun H locs hP hS => ?_)
        refine r_top (show (bI (lowV (addV s (trV s v (brE s b) j_) (brE s b j_)))) = (bI (!aff s (trV s v (brE s b) j_) (brE s b j_))) from congrArg bI (low_aff hW hbe hB2)) ?_
        refine r_if_eq_b (tgt := 46) hx hb dX8_tries_33 (by decide) (fun c33 => ?_) (fun c33 => ?_)
        · skip
          have c33 : aff s (trV s v (brE s b) j_) (brE s b j_) = true := by cases e : aff s (trV s v (brE s b) j_) (brE s b j_) with
            | true => rfl
            | false => rw [e] at c33; cases c33
          refine lv_aload_n hx hb dX8_tries_46 rfl (lv_at hl 1 rfl) ?_
          refine va_get (D := dg) (ci := 8) (v := .ref pt) (C := RX8) (T := TX8) (N := 10) hx hb hts in8 hown hK hP 1 rfl rfl 7 (by decide) f23 (fun _ h9 => h9) rfl dX8_tries_47 ?_
          refine lv_iload_n hx hb dX8_tries_50 rfl (lv_at hl 3 rfl) ?_
          refine lv_iload hx hb dX8_tries_51 (lv_at hl 0 rfl) ?_
          refine r_iast_n hx hb hK hP hD hS 0 rfl (k := n_) (by omega) (by omega) dX8_tries_53 (fun H locs hP hD hS => ?_)
          have hP : va_P dg vwCl [(pt, .inl (tq.1, 60, .inl (upd p_ n_ (nI (brE s b j_))))), (m0, .inr (8, [.ref ms, .ref mw, .int xs, .ref mt, .int xt, .int xa, .ref su, .ref pt, .ref td, .ref wy])), (ms, .inl (tq.1, 1445, .inl s)), (su, .inl (tq.1, 6, .inl g26))] H := hP
          have hD : va_D AA [(pt, .inl (tq.1, 60, .inl (upd p_ n_ (nI (brE s b j_))))), (m0, .inr (8, [.ref ms, .ref mw, .int xs, .ref mt, .int xt, .int xa, .ref su, .ref pt, .ref td, .ref wy])), (ms, .inl (tq.1, 1445, .inl s)), (su, .inl (tq.1, 6, .inl g26))] := hD
          refine lv_iinc (v := (nI (n_ + 1))) (lv' := [(2, .int (nI (n_ + 1))), (4, .int (nI (brE s b j_))), (0, .ref m0), (1, .int (nI b)), (3, .int (nI j_))]) hx hb dX8_tries_54 hl (k := 3) rfl (nI_add _ _) (by decide) rfl (fun ls hl => ?_)
          refine lv_iinc (v := (nI (j_ + 1))) (lv' := [(3, .int (nI (j_ + 1))), (2, .int (nI (n_ + 1))), (4, .int (nI (brE s b j_))), (0, .ref m0), (1, .int (nI b))]) hx hb dX8_tries_57 hl (k := 4) rfl (nI_add _ _) (by decide) rfl (fun ls hl => ?_)
          refine lv_goto (tgt := 4) hx hb dX8_tries_60 (by decide) ?_
          exact ih4 (j_ + 1) (n_ + 1) g26 (upd p_ n_ (nI (brE s b j_))) H locs ls (⟨by omega, by rw [trN, if_pos c33]; omega, fun a ha => by rw [hw26 a ha, trV, stp, if_pos c33], fun k hk => by by_cases e0 : k = n_; (rw [e0, pk_us, hi2, trN_cnt]; unfold okE; rw [nthF_at (fun j => aff s (trV s v (brE s b) j) (brE s b j)) (n := j_ + 1) (b := j_) (by omega) c33]); (rw [pk_un e0, hi4 k (by omega)]; unfold okE; rw [nthF_grow _ (by rw [← trN_cnt, ← hi2]; omega)])⟩) (by omega) (hP.sub [1, 2, 3, 0] rfl) (hD.sub [1, 2, 3, 0] (by decide) rfl) hS (lv_sub hl [3, 4, 1, 0] rfl)
        · skip
          have c33 : aff s (trV s v (brE s b) j_) (brE s b j_) = false := by cases e : aff s (trV s v (brE s b) j_) (brE s b j_) with
            | false => rfl
            | true => rw [e] at c33; cases c33
          refine lv_aload_n hx hb dX8_tries_36 rfl (lv_at hl 1 rfl) ?_
          refine lv_iload hx hb dX8_tries_37 (lv_at hl 0 rfl) ?_
          refine lv_iconst (v := (iI (-1))) hx hb dX8_tries_39 (by decide) ?_
          refine call_v (wr := [(pt, .inl (tq.1, 60, .inl p_))]) (va_runV (As := [.int (nI (brE s b j_)), .int (iI (-1))]) (rest := []) ⟨hx, hb, hml, hown, hts⟩ (kX8_counts__m ln dg tq (m0 := m0) (ms := ms) (mw := mw) (mt := mt) (su := su) (pt := pt) (td := td) (wy := wy) (xs := xs) (xt := xt) (xa := xa) (s := s) (f := g26) (hW := hW) (v := addV s (trV s v (brE s b) j_) (brE s b j_)) (hV := hw26) (e := brE s b j_) (he := (by omega)) H.size) (cwV 2 hts gX8_tries_X8_counts rfl rfl rfl hdX8_counts ⟨Nat.le_of_ble_eq_true rfl, Nat.le_of_ble_eq_true rfl⟩) (preVB hK hN hP hD [1, 2, 3] rfl rfl rfl 1 rfl rfl [.int (nI (brE s b j_)), .int (iI (-1))]) rfl rfl hl.1 rfl (lv_room (Nat.le_of_ble_eq_true rfl)) dX8_tries_40 ⟨Nat.le_refl _, Nat.le_refl _⟩) hP hD hS hA [1, 2, 3] [0] rfl rfl (by decide) (by decide) (fun u40 H locs hw40 hP hD hS => ?_)
          obtain ⟨g40, rfl⟩ : ∃ z, z = u40 := ⟨_, rfl⟩
          have hP : va_P dg vwCl [(pt, .inl (tq.1, 60, .inl p_)), (m0, .inr (8, [.ref ms, .ref mw, .int xs, .ref mt, .int xt, .int xa, .ref su, .ref pt, .ref td, .ref wy])), (ms, .inl (tq.1, 1445, .inl s)), (su, .inl (tq.1, 6, .inl g40))] H := hP
          have hD : va_D AA [(pt, .inl (tq.1, 60, .inl p_)), (m0, .inr (8, [.ref ms, .ref mw, .int xs, .ref mt, .int xt, .int xa, .ref su, .ref pt, .ref td, .ref wy])), (ms, .inl (tq.1, 1445, .inl s)), (su, .inl (tq.1, 6, .inl g40))] := hD
          refine lv_goto (tgt := 57) hx hb dX8_tries_43 (by decide) ?_
          refine lv_iinc (v := (nI (j_ + 1))) (lv' := [(3, .int (nI (j_ + 1))), (4, .int (nI (brE s b j_))), (0, .ref m0), (1, .int (nI b)), (2, .int (nI n_))]) hx hb dX8_tries_57 hl (k := 4) rfl (nI_add _ _) (by decide) rfl (fun ls hl => ?_)
          refine lv_goto (tgt := 4) hx hb dX8_tries_60 (by decide) ?_
          exact ih4 (j_ + 1) n_ g40 p_ H locs ls (⟨by omega, by rw [trN, if_neg (by rw [c33]; decide)]; omega, fun a ha => by rw [hw40 a ha, trV, stp, if_neg (by rw [c33]; decide)]; exact congrArg iI (by unfold subV addV; omega), fun k hk => by rw [hi4 k hk]; unfold okE; rw [nthF_grow _ (by rw [← trN_cnt, ← hi2]; exact hk)]⟩) (by omega) (hP.sub [1, 2, 3, 0] rfl) (hD.sub [1, 2, 3, 0] (by decide) rfl) hS (lv_sub hl [2, 3, 4, 0] rfl)
  exact loop4 _ 0 0 f pp H locs ls (⟨by omega, rfl, hV, fun k h => absurd h (Nat.not_lt_zero k)⟩) (Nat.lt_succ_self _) (hP.sub [0, 1, 2, 3] rfl) (hD.sub [0, 1, 2, 3] (by decide) rfl) hS (lv_sub hl [2, 3, 1, 0] rfl)
