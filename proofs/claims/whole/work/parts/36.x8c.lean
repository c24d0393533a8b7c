theorem hdX8_records : yX8_records.cls = RX8 ∧ yX8_records.cls ≠ "java/lang/invoke/MethodHandle" ∧ yX8_records.cls ≠ "java/lang/invoke/VarHandle" ∧ (parseMethodDescriptor yX8_records.desc).map (fun d => d.parameters.length) = some 0 := by decide +kernel
set_option maxHeartbeats 4000000 in
set_option maxRecDepth 100000 in
theorem kX8_records (ln : Launch) (dg : va_G) (tq : ClassId × ClassId) (m0 ms mw mt su pt td wy : Nat) (xt xa : Int32) (st : Nat) (hst : st ≤ 5) (s was : Row) : MV ln yX8_records wsX8_records (rmm 0 0) dg tq [.ref m0] [(m0, .inr (8, [.ref ms, .ref mw, .int (nI st), .ref mt, .int xt, .int xa, .ref su, .ref pt, .ref td, .ref wy])), (ms, .inl (tq.1, 1445, .inl s)), (mw, .inl (tq.1, 7225, .inl was))] (fun (u : Unit) => True) (fun u => [(m0, .inr (8, [.ref ms, .ref mw, .int (nI (recN st)), .ref mt, .int xt, .int xa, .ref su, .ref pt, .ref td, .ref wy])), (ms, .inl (tq.1, 1445, .inl s)), (mw, .inl (tq.1, 7225, .inl (recW was s st)))]) := by
  refine MV.enter cX8_records 2 (by decide) rfl rfl (Nat.le_of_ble_eq_true rfl) ?_
  intro pP eE sS mM aA bB mT cC QQ AA hA hAT hret H locs hP hD hS ls hl
  obtain ⟨hx, hb, hml, hown, hts, hK, hN⟩ := hAT
  have hown : sS.vm.findClass RX8 = some mM.cls := hown
  have hl : lv_has ls 2 [(0, .ref m0)] := hl
  have in8 : ∀ w ∈ u_ws RX8 TX8 10, w ∈ wsX8_records := (fun _ h9 => List.mem_cons_of_mem _ (List.mem_append_right _ h9))
  have f37 := hts (.fieldLink RX8 37 "OrphanChainModel" "states" "I") (List.mem_of_getElem? (i := 1) rfl)
  have f13 := hts (.fieldLink RX8 13 "OrphanChainModel" "was" "[I") (List.mem_of_getElem? (i := 2) rfl)
  have f7 := hts (.fieldLink RX8 7 "OrphanChainModel" "s" "[I") (List.mem_of_getElem? (i := 3) rfl)
  refine lv_aload_n hx hb dX8_records_0 rfl (lv_at hl 0 rfl) ?_
  refine va_get (D := dg) (ci := 8) (v := .int (nI st)) (C := RX8) (T := TX8) (N := 10) hx hb hts in8 hown hK hP 0 rfl rfl 2 (by decide) f37 (fun _ h9 => h9) rfl dX8_records_1 ?_
  refine lv_iconst (v := (nI 5)) hx hb dX8_records_4 (by decide) ?_
  refine r_icmp_ne (tgt := 49) hx hb (nI_tI (by omega)) (nI_tI (by omega)) dX8_records_5 (by decide) (fun c5 => ?_) (fun c5 => ?_)
  · skip
    refine lv_iconst (v := (nI 0)) hx hb dX8_records_49 (by decide) ?_
    refine lv_istore_n (lv' := [(1, .int (nI 0)), (0, .ref m0)]) hx hb dX8_records_50 rfl hl (by decide) rfl (fun ls hl => ?_)
    have loop51 : ∀ (fu : Nat) (k_ : Nat) (y_ : Row) (H : Heap) (locs : List Loc) (ls : Array Slot), (k_ ≤ 1445 ∧ y_ = va_cpy s was 0 (1445 * st) k_) → 1445 - k_ < fu → va_P dg vwCl [(m0, .inr (8, [.ref ms, .ref mw, .int (nI st), .ref mt, .int xt, .int xa, .ref su, .ref pt, .ref td, .ref wy])), (ms, .inl (tq.1, 1445, .inl s)), (mw, .inl (tq.1, 7225, .inl y_))] H → va_D AA [(m0, .inr (8, [.ref ms, .ref mw, .int (nI st), .ref mt, .int xt, .int xa, .ref su, .ref pt, .ref td, .ref wy])), (ms, .inl (tq.1, 1445, .inl s)), (mw, .inl (tq.1, 7225, .inl y_))] → va_S AA sS.heap H locs → lv_has ls 2 [(0, .ref m0), (1, .int (nI k_))] → W pP ln eE (rmm 0 0) sS mM aA bB mT cC H locs 0 0 QQ (F0 mM 51 ls []) := by
      intro fu
      induction fu with
      | zero => intro k_ y_ H locs ls _ hm; exact absurd hm (Nat.not_lt_zero _)
      | succ fu ih51 =>
        intro k_ y_ H locs ls hinv hm hP hD hS hl
        obtain ⟨hj1, hj2⟩ := hinv
        refine lv_iload_n hx hb dX8_records_51 rfl (lv_at hl 1 rfl) ?_
        refine lv_sipush (v := (nI 1445)) hx hb dX8_records_52 (by decide) ?_
        refine r_icmp_ge (tgt := 85) hx hb (nI_tI (by omega)) (nI_tI (by omega)) dX8_records_55 (by decide) (fun c55 => ?_) (fun c55 => ?_)
        · skip
          refine lv_aload_n hx hb dX8_records_85 rfl (lv_at hl 0 rfl) ?_
          refine lv_dup hx hb dX8_records_86 rfl ?_
          refine va_get (D := dg) (ci := 8) (v := .int (nI st)) (C := RX8) (T := TX8) (N := 10) hx hb hts in8 hown hK hP 0 rfl rfl 2 (by decide) f37 (fun _ h9 => h9) rfl dX8_records_87 ?_
          refine lv_iconst (v := (nI 1)) hx hb dX8_records_90 (by decide) ?_
          refine r_iadd_n hx hb dX8_records_91 ?_
          refine va_put (D := dg) (ci := 8) (v := .int (nI (st + 1))) (ty := .int) (C := RX8) (T := TX8) (N := 10) hx hb hts in8 tyX8 tyX8_ok nmX8 hown hK hP hD hS 0 rfl rfl 2 (by decide) f37 (fun _ h9 => h9) rfl (by decide +kernel) rfl rfl (Nat.le_of_ble_eq_true rfl) dX8_records_92 (fun H locs hP hD hS => ?_)
          have hP : va_P dg vwCl [(m0, .inr (8, [.ref ms, .ref mw, .int (nI (st + 1)), .ref mt, .int xt, .int xa, .ref su, .ref pt, .ref td, .ref wy])), (ms, .inl (tq.1, 1445, .inl s)), (mw, .inl (tq.1, 7225, .inl y_))] H := hP
          have hD : va_D AA [(m0, .inr (8, [.ref ms, .ref mw, .int (nI (st + 1)), .ref mt, .int xt, .int xa, .ref su, .ref pt, .ref td, .ref wy])), (ms, .inl (tq.1, 1445, .inl s)), (mw, .inl (tq.1, 7225, .inl y_))] := hD
          have ew : (nI (st + 1)) = (nI (recN st)) := by unfold recN; rw [if_pos (by omega)]
          have hP : va_P dg vwCl [(m0, .inr (8, [.ref ms, .ref mw, .int (nI (recN st)), .ref mt, .int xt, .int xa, .ref su, .ref pt, .ref td, .ref wy])), (ms, .inl (tq.1, 1445, .inl s)), (mw, .inl (tq.1, 7225, .inl y_))] H := by rw [← ew]; exact hP
          have hD : va_D AA [(m0, .inr (8, [.ref ms, .ref mw, .int (nI (recN st)), .ref mt, .int xt, .int xa, .ref su, .ref pt, .ref td, .ref wy])), (ms, .inl (tq.1, 1445, .inl s)), (mw, .inl (tq.1, 7225, .inl y_))] := by rw [← ew]; exact hD
          have ew : y_ = (recW was s st) := by unfold recW; rw [hj2, show k_ = 1445 by omega, if_neg (by omega)]
          have hP : va_P dg vwCl [(m0, .inr (8, [.ref ms, .ref mw, .int (nI (recN st)), .ref mt, .int xt, .int xa, .ref su, .ref pt, .ref td, .ref wy])), (ms, .inl (tq.1, 1445, .inl s)), (mw, .inl (tq.1, 7225, .inl (recW was s st)))] H := by rw [← ew]; exact hP
          have hD : va_D AA [(m0, .inr (8, [.ref ms, .ref mw, .int (nI (recN st)), .ref mt, .int xt, .int xa, .ref su, .ref pt, .ref td, .ref wy])), (ms, .inl (tq.1, 1445, .inl s)), (mw, .inl (tq.1, 7225, .inl (recW was s st)))] := by rw [← ew]; exact hD
          exact hret (()) H locs _ ls (trivial) (hP.sub [0, 1, 2] rfl) (hD.sub [0, 1, 2] (by decide) rfl) hS dX8_records_95
        · skip
          refine lv_aload_n hx hb dX8_records_58 rfl (lv_at hl 0 rfl) ?_
          refine va_get (D := dg) (ci := 8) (v := .ref mw) (C := RX8) (T := TX8) (N := 10) hx hb hts in8 hown hK hP 0 rfl rfl 1 (by decide) f13 (fun _ h9 => h9) rfl dX8_records_59 ?_
          refine lv_sipush (v := (nI 1445)) hx hb dX8_records_62 (by decide) ?_
          refine lv_aload_n hx hb dX8_records_65 rfl (lv_at hl 0 rfl) ?_
          refine va_get (D := dg) (ci := 8) (v := .int (nI st)) (C := RX8) (T := TX8) (N := 10) hx hb hts in8 hown hK hP 0 rfl rfl 2 (by decide) f37 (fun _ h9 => h9) rfl dX8_records_66 ?_
          refine r_imul_n hx hb dX8_records_69 ?_
          refine lv_iload_n hx hb dX8_records_70 rfl (lv_at hl 1 rfl) ?_
          refine r_iadd_n hx hb dX8_records_71 ?_
          refine lv_aload_n hx hb dX8_records_72 rfl (lv_at hl 0 rfl) ?_
          refine va_get (D := dg) (ci := 8) (v := .ref ms) (C := RX8) (T := TX8) (N := 10) hx hb hts in8 hown hK hP 0 rfl rfl 0 (by decide) f7 (fun _ h9 => h9) rfl dX8_records_73 ?_
          refine lv_iload_n hx hb dX8_records_76 rfl (lv_at hl 1 rfl) ?_
          refine r_iald_n hx hb hK hP 1 rfl (k := k_) (by omega) (by omega) dX8_records_77 ?_
          refine r_iast_n hx hb hK hP hD hS 2 rfl (k := ((1445 * st) + k_)) (by omega) (by omega) dX8_records_78 (fun H locs hP hD hS => ?_)
          have hP : va_P dg vwCl [(m0, .inr (8, [.ref ms, .ref mw, .int (nI st), .ref mt, .int xt, .int xa, .ref su, .ref pt, .ref td, .ref wy])), (ms, .inl (tq.1, 1445, .inl s)), (mw, .inl (tq.1, 7225, .inl (upd y_ ((1445 * st) + k_) (s k_))))] H := hP
          have hD : va_D AA [(m0, .inr (8, [.ref ms, .ref mw, .int (nI st), .ref mt, .int xt, .int xa, .ref su, .ref pt, .ref td, .ref wy])), (ms, .inl (tq.1, 1445, .inl s)), (mw, .inl (tq.1, 7225, .inl (upd y_ ((1445 * st) + k_) (s k_))))] := hD
          refine lv_iinc (v := (nI (k_ + 1))) (lv' := [(1, .int (nI (k_ + 1))), (0, .ref m0)]) hx hb dX8_records_79 hl (k := 1) rfl (nI_add _ _) (by decide) rfl (fun ls hl => ?_)
          refine lv_goto (tgt := 51) hx hb dX8_records_82 (by decide) ?_
          exact ih51 (k_ + 1) (upd y_ ((1445 * st) + k_) (s k_)) H locs ls (⟨by omega, by rw [hj2, show s k_ = s (0 + k_) by rw [Nat.zero_add]]; exact cpy_s _ _ _ _ _⟩) (by omega) (hP.sub [0, 1, 2] rfl) (hD.sub [0, 1, 2] (by decide) rfl) hS (lv_sub hl [1, 0] rfl)
    exact loop51 _ 0 was H locs ls (⟨by omega, by rw [cpy_0]⟩) (Nat.lt_succ_self _) (hP.sub [0, 1, 2] rfl) (hD.sub [0, 1, 2] (by decide) rfl) hS (lv_sub hl [1, 0] rfl)
  · skip
    refine lv_iconst (v := (nI 0)) hx hb dX8_records_8 (by decide) ?_
    refine lv_istore_n (lv' := [(1, .int (nI 0)), (0, .ref m0)]) hx hb dX8_records_9 rfl hl (by decide) rfl (fun ls hl => ?_)
    have loop10 : ∀ (fu : Nat) (i_ : Nat) (x_ : Row) (H : Heap) (locs : List Loc) (ls : Array Slot), (i_ ≤ 5780 ∧ x_ = shiftW was i_) → 5780 - i_ < fu → va_P dg vwCl [(m0, .inr (8, [.ref ms, .ref mw, .int (nI st), .ref mt, .int xt, .int xa, .ref su, .ref pt, .ref td, .ref wy])), (ms, .inl (tq.1, 1445, .inl s)), (mw, .inl (tq.1, 7225, .inl x_))] H → va_D AA [(m0, .inr (8, [.ref ms, .ref mw, .int (nI st), .ref mt, .int xt, .int xa, .ref su, .ref pt, .ref td, .ref wy])), (ms, .inl (tq.1, 1445, .inl s)), (mw, .inl (tq.1, 7225, .inl x_))] → va_S AA sS.heap H locs → lv_has ls 2 [(0, .ref m0), (1, .int (nI i_))] → W pP ln eE (rmm 0 0) sS mM aA bB mT cC H locs 0 0 QQ (F0 mM 10 ls []) := by
      intro fu
      induction fu with
      | zero => intro i_ x_ H locs ls _ hm; exact absurd hm (Nat.not_lt_zero _)
      | succ fu ih10 =>
        intro i_ x_ H locs ls hinv hm hP hD hS hl
        obtain ⟨hi1, hi2⟩ := hinv
        refine lv_iload_n hx hb dX8_records_10 rfl (lv_at hl 1 rfl) ?_
        refine lv_sipush (v := (nI 5780)) hx hb dX8_records_11 (by decide) ?_
        refine r_icmp_ge (tgt := 39) hx hb (nI_tI (by omega)) (nI_tI (by omega)) dX8_records_14 (by decide) (fun c14 => ?_) (fun c14 => ?_)
        · skip
          refine lv_aload_n hx hb dX8_records_39 rfl (lv_at hl 0 rfl) ?_
          refine lv_dup hx hb dX8_records_40 rfl ?_
          refine va_get (D := dg) (ci := 8) (v := .int (nI st)) (C := RX8) (T := TX8) (N := 10) hx hb hts in8 hown hK hP 0 rfl rfl 2 (by decide) f37 (fun _ h9 => h9) rfl dX8_records_41 ?_
          refine lv_iconst (v := (nI 1)) hx hb dX8_records_44 (by decide) ?_
          refine r_isub_n hx hb (by omega) dX8_records_45 ?_
          refine va_put (D := dg) (ci := 8) (v := .int (nI (st - 1))) (ty := .int) (C := RX8) (T := TX8) (N := 10) hx hb hts in8 tyX8 tyX8_ok nmX8 hown hK hP hD hS 0 rfl rfl 2 (by decide) f37 (fun _ h9 => h9) rfl (by decide +kernel) rfl rfl (Nat.le_of_ble_eq_true rfl) dX8_records_46 (fun H locs hP hD hS => ?_)
          have hP : va_P dg vwCl [(m0, .inr (8, [.ref ms, .ref mw, .int (nI (st - 1)), .ref mt, .int xt, .int xa, .ref su, .ref pt, .ref td, .ref wy])), (ms, .inl (tq.1, 1445, .inl s)), (mw, .inl (tq.1, 7225, .inl x_))] H := hP
          have hD : va_D AA [(m0, .inr (8, [.ref ms, .ref mw, .int (nI (st - 1)), .ref mt, .int xt, .int xa, .ref su, .ref pt, .ref td, .ref wy])), (ms, .inl (tq.1, 1445, .inl s)), (mw, .inl (tq.1, 7225, .inl x_))] := hD
          refine lv_iconst (v := (nI 0)) hx hb dX8_records_49 (by decide) ?_
          refine lv_istore_n (lv' := [(1, .int (nI 0)), (0, .ref m0)]) hx hb dX8_records_50 rfl hl (by decide) rfl (fun ls hl => ?_)
          have loop51 : ∀ (fu : Nat) (k_ : Nat) (y_ : Row) (H : Heap) (locs : List Loc) (ls : Array Slot), (k_ ≤ 1445 ∧ y_ = va_cpy s (shiftW was 5780) 0 (1445 * (st - 1)) k_) → 1445 - k_ < fu → va_P dg vwCl [(m0, .inr (8, [.ref ms, .ref mw, .int (nI (st - 1)), .ref mt, .int xt, .int xa, .ref su, .ref pt, .ref td, .ref wy])), (ms, .inl (tq.1, 1445, .inl s)), (mw, .inl (tq.1, 7225, .inl y_))] H → va_D AA [(m0, .inr (8, [.ref ms, .ref mw, .int (nI (st - 1)), .ref mt, .int xt, .int xa, .ref su, .ref pt, .ref td, .ref wy])), (ms, .inl (tq.1, 1445, .inl s)), (mw, .inl (tq.1, 7225, .inl y_))] → va_S AA sS.heap H locs → lv_has ls 2 [(0, .ref m0), (1, .int (nI k_))] → W pP ln eE (rmm 0 0) sS mM aA bB mT cC H locs 0 0 QQ (F0 mM 51 ls []) := by
            intro fu
            induction fu with
            | zero => intro k_ y_ H locs ls _ hm; exact absurd hm (Nat.not_lt_zero _)
            | succ fu ih51 =>
              intro k_ y_ H locs ls hinv hm hP hD hS hl
              obtain ⟨hj1, hj2⟩ := hinv
              refine lv_iload_n hx hb dX8_records_51 rfl (lv_at hl 1 rfl) ?_
              refine lv_sipush (v := (nI 1445)) hx hb dX8_records_52 (by decide) ?_
              refine r_icmp_ge (tgt := 85) hx hb (nI_tI (by omega)) (nI_tI (by omega)) dX8_records_55 (by decide) (fun c55 => ?_) (fun c55 => ?_)
              · skip
                refine lv_aload_n hx hb dX8_records_85 rfl (lv_at hl 0 rfl) ?_
                refine lv_dup hx hb dX8_records_86 rfl ?_
                refine va_get (D := dg) (ci := 8) (v := .int (nI (st - 1))) (C := RX8) (T := TX8) (N := 10) hx hb hts in8 hown hK hP 0 rfl rfl 2 (by decide) f37 (fun _ h9 => h9) rfl dX8_records_87 ?_
                refine lv_iconst (v := (nI 1)) hx hb dX8_records_90 (by decide) ?_
                refine r_iadd_n hx hb dX8_records_91 ?_
                refine va_put (D := dg) (ci := 8) (v := .int (nI ((st - 1) + 1))) (ty := .int) (C := RX8) (T := TX8) (N := 10) hx hb hts in8 tyX8 tyX8_ok nmX8 hown hK hP hD hS 0 rfl rfl 2 (by decide) f37 (fun _ h9 => h9) rfl (by decide +kernel) rfl rfl (Nat.le_of_ble_eq_true rfl) dX8_records_92 (fun H locs hP hD hS => ?_)
                have hP : va_P dg vwCl [(m0, .inr (8, [.ref ms, .ref mw, .int (nI ((st - 1) + 1)), .ref mt, .int xt, .int xa, .ref su, .ref pt, .ref td, .ref wy])), (ms, .inl (tq.1, 1445, .inl s)), (mw, .inl (tq.1, 7225, .inl y_))] H := hP
                have hD : va_D AA [(m0, .inr (8, [.ref ms, .ref mw, .int (nI ((st - 1) + 1)), .ref mt, .int xt, .int xa, .ref su, .ref pt, .ref td, .ref wy])), (ms, .inl (tq.1, 1445, .inl s)), (mw, .inl (tq.1, 7225, .inl y_))] := hD
                have ew : (nI ((st - 1) + 1)) = (nI (recN st)) := by unfold recN; rw [if_neg (by omega)]; congr 1; omega
                have hP : va_P dg vwCl [(m0, .inr (8, [.ref ms, .ref mw, .int (nI (recN st)), .ref mt, .int xt, .int xa, .ref su, .ref pt, .ref td, .ref wy])), (ms, .inl (tq.1, 1445, .inl s)), (mw, .inl (tq.1, 7225, .inl y_))] H := by rw [← ew]; exact hP
                have hD : va_D AA [(m0, .inr (8, [.ref ms, .ref mw, .int (nI (recN st)), .ref mt, .int xt, .int xa, .ref su, .ref pt, .ref td, .ref wy])), (ms, .inl (tq.1, 1445, .inl s)), (mw, .inl (tq.1, 7225, .inl y_))] := by rw [← ew]; exact hD
                have ew : y_ = (recW was s st) := by unfold recW; rw [hj2, show k_ = 1445 by omega, if_pos (by omega)]; rw [show st - 1 = 5 - 1 by omega]
                have hP : va_P dg vwCl [(m0, .inr (8, [.ref ms, .ref mw, .int (nI (recN st)), .ref mt, .int xt, .int xa, .ref su, .ref pt, .ref td, .ref wy])), (ms, .inl (tq.1, 1445, .inl s)), (mw, .inl (tq.1, 7225, .inl (recW was s st)))] H := by rw [← ew]; exact hP
                have hD : va_D AA [(m0, .inr (8, [.ref ms, .ref mw, .int (nI (recN st)), .ref mt, .int xt, .int xa, .ref su, .ref pt, .ref td, .ref wy])), (ms, .inl (tq.1, 1445, .inl s)), (mw, .inl (tq.1, 7225, .inl (recW was s st)))] := by rw [← ew]; exact hD
                exact hret (()) H locs _ ls (trivial) (hP.sub [0, 1, 2] rfl) (hD.sub [0, 1, 2] (by decide) rfl) hS dX8_records_95
              · skip
                refine lv_aload_n hx hb dX8_records_58 rfl (lv_at hl 0 rfl) ?_
                refine va_get (D := dg) (ci := 8) (v := .ref mw) (C := RX8) (T := TX8) (N := 10) hx hb hts in8 hown hK hP 0 rfl rfl 1 (by decide) f13 (fun _ h9 => h9) rfl dX8_records_59 ?_
                refine lv_sipush (v := (nI 1445)) hx hb dX8_records_62 (by decide) ?_
                refine lv_aload_n hx hb dX8_records_65 rfl (lv_at hl 0 rfl) ?_
                refine va_get (D := dg) (ci := 8) (v := .int (nI (st - 1))) (C := RX8) (T := TX8) (N := 10) hx hb hts in8 hown hK hP 0 rfl rfl 2 (by decide) f37 (fun _ h9 => h9) rfl dX8_records_66 ?_
                refine r_imul_n hx hb dX8_records_69 ?_
                refine lv_iload_n hx hb dX8_records_70 rfl (lv_at hl 1 rfl) ?_
                refine r_iadd_n hx hb dX8_records_71 ?_
                refine lv_aload_n hx hb dX8_records_72 rfl (lv_at hl 0 rfl) ?_
                refine va_get (D := dg) (ci := 8) (v := .ref ms) (C := RX8) (T := TX8) (N := 10) hx hb hts in8 hown hK hP 0 rfl rfl 0 (by decide) f7 (fun _ h9 => h9) rfl dX8_records_73 ?_
                refine lv_iload_n hx hb dX8_records_76 rfl (lv_at hl 1 rfl) ?_
                refine r_iald_n hx hb hK hP 1 rfl (k := k_) (by omega) (by omega) dX8_records_77 ?_
                refine r_iast_n hx hb hK hP hD hS 2 rfl (k := ((1445 * (st - 1)) + k_)) (by omega) (by omega) dX8_records_78 (fun H locs hP hD hS => ?_)
                have hP : va_P dg vwCl [(m0, .inr (8, [.ref ms, .ref mw, .int (nI (st - 1)), .ref mt, .int xt, .int xa, .ref su, .ref pt, .ref td, .ref wy])), (ms, .inl (tq.1, 1445, .inl s)), (mw, .inl (tq.1, 7225, .inl (upd y_ ((1445 * (st - 1)) + k_) (s k_))))] H := hP
                have hD : va_D AA [(m0, .inr (8, [.ref ms, .ref mw, .int (nI (st - 1)), .ref mt, .int xt, .int xa, .ref su, .ref pt, .ref td, .ref wy])), (ms, .inl (tq.1, 1445, .inl s)), (mw, .inl (tq.1, 7225, .inl (upd y_ ((1445 * (st - 1)) + k_) (s k_))))] := hD
                refine lv_iinc (v := (nI (k_ + 1))) (lv' := [(1, .int (nI (k_ + 1))), (0, .ref m0)]) hx hb dX8_records_79 hl (k := 1) rfl (nI_add _ _) (by decide) rfl (fun ls hl => ?_)
                refine lv_goto (tgt := 51) hx hb dX8_records_82 (by decide) ?_
                exact ih51 (k_ + 1) (upd y_ ((1445 * (st - 1)) + k_) (s k_)) H locs ls (⟨by omega, by rw [hj2, show s k_ = s (0 + k_) by rw [Nat.zero_add]]; exact cpy_s _ _ _ _ _⟩) (by omega) (hP.sub [0, 1, 2] rfl) (hD.sub [0, 1, 2] (by decide) rfl) hS (lv_sub hl [1, 0] rfl)
          exact loop51 _ 0 x_ H locs ls (⟨by omega, by rw [cpy_0]; rw [hi2, show i_ = 5780 by omega]⟩) (Nat.lt_succ_self _) (hP.sub [0, 1, 2] rfl) (hD.sub [0, 1, 2] (by decide) rfl) hS (lv_sub hl [1, 0] rfl)
        · skip
          refine lv_aload_n hx hb dX8_records_17 rfl (lv_at hl 0 rfl) ?_
          refine va_get (D := dg) (ci := 8) (v := .ref mw) (C := RX8) (T := TX8) (N := 10) hx hb hts in8 hown hK hP 0 rfl rfl 1 (by decide) f13 (fun _ h9 => h9) rfl dX8_records_18 ?_
          refine lv_iload_n hx hb dX8_records_21 rfl (lv_at hl 1 rfl) ?_
          refine lv_aload_n hx hb dX8_records_22 rfl (lv_at hl 0 rfl) ?_
          refine va_get (D := dg) (ci := 8) (v := .ref mw) (C := RX8) (T := TX8) (N := 10) hx hb hts in8 hown hK hP 0 rfl rfl 1 (by decide) f13 (fun _ h9 => h9) rfl dX8_records_23 ?_
          refine lv_iload_n hx hb dX8_records_26 rfl (lv_at hl 1 rfl) ?_
          refine lv_sipush (v := (nI 1445)) hx hb dX8_records_27 (by decide) ?_
          refine r_iadd_n hx hb dX8_records_30 ?_
          refine r_iald_n hx hb hK hP 2 rfl (k := (i_ + 1445)) (by omega) (by omega) dX8_records_31 ?_
          refine r_iast_n hx hb hK hP hD hS 2 rfl (k := i_) (by omega) (by omega) dX8_records_32 (fun H locs hP hD hS => ?_)
          have hP : va_P dg vwCl [(m0, .inr (8, [.ref ms, .ref mw, .int (nI st), .ref mt, .int xt, .int xa, .ref su, .ref pt, .ref td, .ref wy])), (ms, .inl (tq.1, 1445, .inl s)), (mw, .inl (tq.1, 7225, .inl (upd x_ i_ (x_ (i_ + 1445)))))] H := hP
          have hD : va_D AA [(m0, .inr (8, [.ref ms, .ref mw, .int (nI st), .ref mt, .int xt, .int xa, .ref su, .ref pt, .ref td, .ref wy])), (ms, .inl (tq.1, 1445, .inl s)), (mw, .inl (tq.1, 7225, .inl (upd x_ i_ (x_ (i_ + 1445)))))] := hD
          refine lv_iinc (v := (nI (i_ + 1))) (lv' := [(1, .int (nI (i_ + 1))), (0, .ref m0)]) hx hb dX8_records_33 hl (k := 1) rfl (nI_add _ _) (by decide) rfl (fun ls hl => ?_)
          refine lv_goto (tgt := 10) hx hb dX8_records_36 (by decide) ?_
          exact ih10 (i_ + 1) (upd x_ i_ (x_ (i_ + 1445))) H locs ls (⟨by omega, by rw [hi2]; exact shiftW_s was i_⟩) (by omega) (hP.sub [0, 1, 2] rfl) (hD.sub [0, 1, 2] (by decide) rfl) hS (lv_sub hl [1, 0] rfl)
    exact loop10 _ 0 was H locs ls (⟨by omega, (shiftW_0 was).symm⟩) (Nat.lt_succ_self _) (hP.sub [0, 1, 2] rfl) (hD.sub [0, 1, 2] (by decide) rfl) hS (lv_sub hl [1, 0] rfl)
theorem hdX8_puts : yX8_puts.cls = RX8 ∧ yX8_puts.cls ≠ "java/lang/invoke/MethodHandle" ∧ yX8_puts.cls ≠ "java/lang/invoke/VarHandle" ∧ (parseMethodDescriptor yX8_puts.desc).map (fun d => d.parameters.length) = some 5 := by decide +kernel
set_option maxHeartbeats 4000000 in
set_option maxRecDepth 100000 in
theorem kX8_puts (ln : Launch) (dg : va_G) (tq : ClassId × ClassId) (m0 ms mw mt su pt td wy : Nat) (xs xt xa : Int32) (s : Row) (hW : WF s) (k f t a o : Int32) (hn : nE s < 60) : MW ln yX8_puts wsX8_puts (rmm 2 43) dg tq [.ref m0, .int k, .int f, .int t, .int a, .int o] [(m0, .inr (8, [.ref ms, .ref mw, .int xs, .ref mt, .int xt, .int xa, .ref su, .ref pt, .ref td, .ref wy])), (ms, .inl (tq.1, 1445, .inl s))] (fun (r : Int32) (u : Unit) => r = (nI (nE s))) (fun u => [(m0, .inr (8, [.ref ms, .ref mw, .int xs, .ref mt, .int xt, .int xa, .ref su, .ref pt, .ref td, .ref wy])), (ms, .inl (tq.1, 1445, .inl (putE s k f t a o)))]) := by
  refine MW.enter cX8_puts 8 .int (by decide) rfl rfl (Nat.le_of_ble_eq_true rfl) ?_
  intro pP eE sS mM aA bB mT cC QQ AA hA hAT hret H locs hP hD hS ls hl
  obtain ⟨hx, hb, hml, hown, hts, hK, hN⟩ := hAT
  have hown : sS.vm.findClass RX8 = some mM.cls := hown
  have hl : lv_has ls 8 [(0, .ref m0), (1, .int k), (2, .int f), (3, .int t), (4, .int a), (5, .int o)] := hl
  have in8 : ∀ w ∈ u_ws RX8 TX8 10, w ∈ wsX8_puts := (fun _ h9 => List.mem_cons_of_mem _ (List.mem_append_right _ h9))
  have f7 := hts (.fieldLink RX8 7 "OrphanChainModel" "s" "[I") (List.mem_of_getElem? (i := 1) rfl)
  have hn60 := hW.n60
  have hb10 := hW.b10
  have hs8 := hW.s8
  have hhn := hW.hn
  refine lv_aload_n hx hb dX8_puts_0 rfl (lv_at hl 0 rfl) ?_
  refine va_get (D := dg) (ci := 8) (v := .ref ms) (C := RX8) (T := TX8) (N := 10) hx hb hts in8 hown hK hP 0 rfl rfl 0 (by decide) f7 (fun _ h9 => h9) rfl dX8_puts_1 ?_
  refine lv_iconst (v := (nI 0)) hx hb dX8_puts_4 (by decide) ?_
  refine r_iald_n hx hb hK hP 1 rfl (k := 0) (by omega) (by omega) dX8_puts_5 ?_
  refine r_top (show (s 0) = (nI (nE s)) from (hW.n)) ?_
  refine lv_istore (lv' := [(6, .int (nI (nE s))), (0, .ref m0), (1, .int k), (2, .int f), (3, .int t), (4, .int a), (5, .int o)]) hx hb dX8_puts_6 hl (by decide) rfl (fun ls hl => ?_)
  refine lv_iconst (v := (nI 5)) hx hb dX8_puts_8 (by decide) ?_
  refine lv_bipush (v := (nI 7)) hx hb dX8_puts_9 (by decide) ?_
  refine lv_iload hx hb dX8_puts_11 (lv_at hl 0 rfl) ?_
  refine r_imul_n hx hb dX8_puts_13 ?_
  refine r_iadd_n hx hb dX8_puts_14 ?_
  refine lv_istore (lv' := [(7, .int (nI (5 + (7 * (nE s))))), (6, .int (nI (nE s))), (0, .ref m0), (1, .int k), (2, .int f), (3, .int t), (4, .int a), (5, .int o)]) hx hb dX8_puts_15 hl (by decide) rfl (fun ls hl => ?_)
  refine lv_aload_n hx hb dX8_puts_17 rfl (lv_at hl 2 rfl) ?_
  refine va_get (D := dg) (ci := 8) (v := .ref ms) (C := RX8) (T := TX8) (N := 10) hx hb hts in8 hown hK hP 0 rfl rfl 0 (by decide) f7 (fun _ h9 => h9) rfl dX8_puts_18 ?_
  refine lv_iload hx hb dX8_puts_21 (lv_at hl 0 rfl) ?_
  refine lv_iconst (v := (nI 0)) hx hb dX8_puts_23 (by decide) ?_
  refine r_iadd_n hx hb dX8_puts_24 ?_
  refine lv_aload_n hx hb dX8_puts_25 rfl (lv_at hl 2 rfl) ?_
  refine va_get (D := dg) (ci := 8) (v := .ref ms) (C := RX8) (T := TX8) (N := 10) hx hb hts in8 hown hK hP 0 rfl rfl 0 (by decide) f7 (fun _ h9 => h9) rfl dX8_puts_26 ?_
  refine lv_iconst (v := (nI 1)) hx hb dX8_puts_29 (by decide) ?_
  refine r_iald_n hx hb hK hP 1 rfl (k := 1) (by omega) (by omega) dX8_puts_30 ?_
  refine r_top (show (s 1) = (nI (hE s)) from (hW.h)) ?_
  refine r_iast_n hx hb hK hP hD hS 1 rfl (k := ((5 + (7 * (nE s))) + 0)) (by omega) (by omega) dX8_puts_31 (fun H locs hP hD hS => ?_)
  have hP : va_P dg vwCl [(m0, .inr (8, [.ref ms, .ref mw, .int xs, .ref mt, .int xt, .int xa, .ref su, .ref pt, .ref td, .ref wy])), (ms, .inl (tq.1, 1445, .inl (upd s ((5 + (7 * (nE s))) + 0) (nI (hE s)))))] H := hP
  have hD : va_D AA [(m0, .inr (8, [.ref ms, .ref mw, .int xs, .ref mt, .int xt, .int xa, .ref su, .ref pt, .ref td, .ref wy])), (ms, .inl (tq.1, 1445, .inl (upd s ((5 + (7 * (nE s))) + 0) (nI (hE s)))))] := hD
  refine lv_aload_n hx hb dX8_puts_32 rfl (lv_at hl 2 rfl) ?_
  refine va_get (D := dg) (ci := 8) (v := .ref ms) (C := RX8) (T := TX8) (N := 10) hx hb hts in8 hown hK hP 0 rfl rfl 0 (by decide) f7 (fun _ h9 => h9) rfl dX8_puts_33 ?_
  refine lv_iload hx hb dX8_puts_36 (lv_at hl 0 rfl) ?_
  refine lv_iconst (v := (nI 1)) hx hb dX8_puts_38 (by decide) ?_
  refine r_iadd_n hx hb dX8_puts_39 ?_
  refine lv_iload_n hx hb dX8_puts_40 rfl (lv_at hl 3 rfl) ?_
  refine r_iast_n hx hb hK hP hD hS 1 rfl (k := ((5 + (7 * (nE s))) + 1)) (by omega) (by omega) dX8_puts_41 (fun H locs hP hD hS => ?_)
  have hP : va_P dg vwCl [(m0, .inr (8, [.ref ms, .ref mw, .int xs, .ref mt, .int xt, .int xa, .ref su, .ref pt, .ref td, .ref wy])), (ms, .inl (tq.1, 1445, .inl (upd (upd s ((5 + (7 * (nE s))) + 0) (nI (hE s))) ((5 + (7 * (nE s))) + 1) k)))] H := hP
  have hD : va_D AA [(m0, .inr (8, [.ref ms, .ref mw, .int xs, .ref mt, .int xt, .int xa, .ref su, .ref pt, .ref td, .ref wy])), (ms, .inl (tq.1, 1445, .inl (upd (upd s ((5 + (7 * (nE s))) + 0) (nI (hE s))) ((5 + (7 * (nE s))) + 1) k)))] := hD
  refine lv_aload_n hx hb dX8_puts_42 rfl (lv_at hl 2 rfl) ?_
  refine va_get (D := dg) (ci := 8) (v := .ref ms) (C := RX8) (T := TX8) (N := 10) hx hb hts in8 hown hK hP 0 rfl rfl 0 (by decide) f7 (fun _ h9 => h9) rfl dX8_puts_43 ?_
  refine lv_iload hx hb dX8_puts_46 (lv_at hl 0 rfl) ?_
  refine lv_iconst (v := (nI 2)) hx hb dX8_puts_48 (by decide) ?_
  refine r_iadd_n hx hb dX8_puts_49 ?_
  refine lv_iload_n hx hb dX8_puts_50 rfl (lv_at hl 4 rfl) ?_
  refine r_iast_n hx hb hK hP hD hS 1 rfl (k := ((5 + (7 * (nE s))) + 2)) (by omega) (by omega) dX8_puts_51 (fun H locs hP hD hS => ?_)
  have hP : va_P dg vwCl [(m0, .inr (8, [.ref ms, .ref mw, .int xs, .ref mt, .int xt, .int xa, .ref su, .ref pt, .ref td, .ref wy])), (ms, .inl (tq.1, 1445, .inl (upd (upd (upd s ((5 + (7 * (nE s))) + 0) (nI (hE s))) ((5 + (7 * (nE s))) + 1) k) ((5 + (7 * (nE s))) + 2) f)))] H := hP
  have hD : va_D AA [(m0, .inr (8, [.ref ms, .ref mw, .int xs, .ref mt, .int xt, .int xa, .ref su, .ref pt, .ref td, .ref wy])), (ms, .inl (tq.1, 1445, .inl (upd (upd (upd s ((5 + (7 * (nE s))) + 0) (nI (hE s))) ((5 + (7 * (nE s))) + 1) k) ((5 + (7 * (nE s))) + 2) f)))] := hD
  refine lv_aload_n hx hb dX8_puts_52 rfl (lv_at hl 2 rfl) ?_
  refine va_get (D := dg) (ci := 8) (v := .ref ms) (C := RX8) (T := TX8) (N := 10) hx hb hts in8 hown hK hP 0 rfl rfl 0 (by decide) f7 (fun _ h9 => h9) rfl dX8_puts_53 ?_
  refine lv_iload hx hb dX8_puts_56 (lv_at hl 0 rfl) ?_
  refine lv_iconst (v := (nI 3)) hx hb dX8_puts_58 (by decide) ?_
  refine r_iadd_n hx hb dX8_puts_59 ?_
  refine lv_iload_n hx hb dX8_puts_60 rfl (lv_at hl 5 rfl) ?_
  refine r_iast_n hx hb hK hP hD hS 1 rfl (k := ((5 + (7 * (nE s))) + 3)) (by omega) (by omega) dX8_puts_61 (fun H locs hP hD hS => ?_)
  have hP : va_P dg vwCl [(m0, .inr (8, [.ref ms, .ref mw, .int xs, .ref mt, .int xt, .int xa, .ref su, .ref pt, .ref td, .ref wy])), (ms, .inl (tq.1, 1445, .inl (upd (upd (upd (upd s ((5 + (7 * (nE s))) + 0) (nI (hE s))) ((5 + (7 * (nE s))) + 1) k) ((5 + (7 * (nE s))) + 2) f) ((5 + (7 * (nE s))) + 3) t)))] H := hP
  have hD : va_D AA [(m0, .inr (8, [.ref ms, .ref mw, .int xs, .ref mt, .int xt, .int xa, .ref su, .ref pt, .ref td, .ref wy])), (ms, .inl (tq.1, 1445, .inl (upd (upd (upd (upd s ((5 + (7 * (nE s))) + 0) (nI (hE s))) ((5 + (7 * (nE s))) + 1) k) ((5 + (7 * (nE s))) + 2) f) ((5 + (7 * (nE s))) + 3) t)))] := hD
  refine lv_aload_n hx hb dX8_puts_62 rfl (lv_at hl 2 rfl) ?_
  refine va_get (D := dg) (ci := 8) (v := .ref ms) (C := RX8) (T := TX8) (N := 10) hx hb hts in8 hown hK hP 0 rfl rfl 0 (by decide) f7 (fun _ h9 => h9) rfl dX8_puts_63 ?_
  refine lv_iload hx hb dX8_puts_66 (lv_at hl 0 rfl) ?_
  refine lv_iconst (v := (nI 4)) hx hb dX8_puts_68 (by decide) ?_
  refine r_iadd_n hx hb dX8_puts_69 ?_
  refine lv_iload hx hb dX8_puts_70 (lv_at hl 6 rfl) ?_
  refine r_iast_n hx hb hK hP hD hS 1 rfl (k := ((5 + (7 * (nE s))) + 4)) (by omega) (by omega) dX8_puts_72 (fun H locs hP hD hS => ?_)
  have hP : va_P dg vwCl [(m0, .inr (8, [.ref ms, .ref mw, .int xs, .ref mt, .int xt, .int xa, .ref su, .ref pt, .ref td, .ref wy])), (ms, .inl (tq.1, 1445, .inl (upd (upd (upd (upd (upd s ((5 + (7 * (nE s))) + 0) (nI (hE s))) ((5 + (7 * (nE s))) + 1) k) ((5 + (7 * (nE s))) + 2) f) ((5 + (7 * (nE s))) + 3) t) ((5 + (7 * (nE s))) + 4) a)))] H := hP
  have hD : va_D AA [(m0, .inr (8, [.ref ms, .ref mw, .int xs, .ref mt, .int xt, .int xa, .ref su, .ref pt, .ref td, .ref wy])), (ms, .inl (tq.1, 1445, .inl (upd (upd (upd (upd (upd s ((5 + (7 * (nE s))) + 0) (nI (hE s))) ((5 + (7 * (nE s))) + 1) k) ((5 + (7 * (nE s))) + 2) f) ((5 + (7 * (nE s))) + 3) t) ((5 + (7 * (nE s))) + 4) a)))] := hD
  refine lv_aload_n hx hb dX8_puts_73 rfl (lv_at hl 2 rfl) ?_
  refine va_get (D := dg) (ci := 8) (v := .ref ms) (C := RX8) (T := TX8) (N := 10) hx hb hts in8 hown hK hP 0 rfl rfl 0 (by decide) f7 (fun _ h9 => h9) rfl dX8_puts_74 ?_
  refine lv_iload hx hb dX8_puts_77 (lv_at hl 0 rfl) ?_
  refine lv_bipush (v := (nI 6)) hx hb dX8_puts_79 (by decide) ?_
  refine r_iadd_n hx hb dX8_puts_81 ?_
  refine lv_iload hx hb dX8_puts_82 (lv_at hl 7 rfl) ?_
  refine r_iast_n hx hb hK hP hD hS 1 rfl (k := ((5 + (7 * (nE s))) + 6)) (by omega) (by omega) dX8_puts_84 (fun H locs hP hD hS => ?_)
  have hP : va_P dg vwCl [(m0, .inr (8, [.ref ms, .ref mw, .int xs, .ref mt, .int xt, .int xa, .ref su, .ref pt, .ref td, .ref wy])), (ms, .inl (tq.1, 1445, .inl (upd (upd (upd (upd (upd (upd s ((5 + (7 * (nE s))) + 0) (nI (hE s))) ((5 + (7 * (nE s))) + 1) k) ((5 + (7 * (nE s))) + 2) f) ((5 + (7 * (nE s))) + 3) t) ((5 + (7 * (nE s))) + 4) a) ((5 + (7 * (nE s))) + 6) o)))] H := hP
  have hD : va_D AA [(m0, .inr (8, [.ref ms, .ref mw, .int xs, .ref mt, .int xt, .int xa, .ref su, .ref pt, .ref td, .ref wy])), (ms, .inl (tq.1, 1445, .inl (upd (upd (upd (upd (upd (upd s ((5 + (7 * (nE s))) + 0) (nI (hE s))) ((5 + (7 * (nE s))) + 1) k) ((5 + (7 * (nE s))) + 2) f) ((5 + (7 * (nE s))) + 3) t) ((5 + (7 * (nE s))) + 4) a) ((5 + (7 * (nE s))) + 6) o)))] := hD
  refine lv_aload_n hx hb dX8_puts_85 rfl (lv_at hl 2 rfl) ?_
  refine va_get (D := dg) (ci := 8) (v := .ref ms) (C := RX8) (T := TX8) (N := 10) hx hb hts in8 hown hK hP 0 rfl rfl 0 (by decide) f7 (fun _ h9 => h9) rfl dX8_puts_86 ?_
  refine lv_iload hx hb dX8_puts_89 (lv_at hl 0 rfl) ?_
  refine lv_iconst (v := (nI 5)) hx hb dX8_puts_91 (by decide) ?_
  refine r_iadd_n hx hb dX8_puts_92 ?_
  refine lv_aload_n hx hb dX8_puts_93 rfl (lv_at hl 2 rfl) ?_
  refine lv_iload hx hb dX8_puts_94 (lv_at hl 1 rfl) ?_
  refine call_x (va_runV (As := [.int (nI (nE s))]) (rest := [.int (nI ((5 + (7 * (nE s))) + 5)), .ref ms]) ⟨hx, hb, hml, hown, hts⟩ (kX8_fitting ln dg tq (m0 := m0) (ms := ms) (mw := mw) (mt := mt) (su := su) (pt := pt) (td := td) (wy := wy) (xs := xs) (xt := xt) (xa := xa) (s := upd (upd (upd (upd (upd (upd s ((5 + (7 * (nE s))) + 0) (nI (hE s))) ((5 + (7 * (nE s))) + 1) k) ((5 + (7 * (nE s))) + 2) f) ((5 + (7 * (nE s))) + 3) t) ((5 + (7 * (nE s))) + 4) a) ((5 + (7 * (nE s))) + 6) o) (e := nE s) (p := hE s) (he := (by omega)) (hp := (fun h0 => by unfold me; repeat first | rw [pk_us] | rw [pk_un (by omega)])) (hp2 := (fun h0 => by omega)) H.size) (cwV 1 hts gX8_puts_X8_fitting rfl rfl rfl hdX8_fitting ⟨Nat.le_of_ble_eq_true rfl, Nat.le_of_ble_eq_true rfl⟩) (preVR hK hN hP [0, 1] rfl 0 rfl rfl [.int (nI (nE s))]) rfl rfl hl.1 rfl (lv_room (Nat.le_of_ble_eq_true rfl)) dX8_puts_96 ⟨Nat.le_refl _, Nat.le_refl _⟩) hP hS hA (fun H locs hP hS => ?_)
  refine r_top (show (mfit (upd (upd (upd (upd (upd (upd s ((5 + (7 * (nE s))) + 0) (nI (hE s))) ((5 + (7 * (nE s))) + 1) k) ((5 + (7 * (nE s))) + 2) f) ((5 + (7 * (nE s))) + 3) t) ((5 + (7 * (nE s))) + 4) a) ((5 + (7 * (nE s))) + 6) o) (nE s) (hE s)) = (fitX (me s (hE s) 5) k f t a (nE s)) from by unfold mfit me; rw [if_neg (by omega)]; (repeat first | rw [pk_us] | rw [pk_un (by omega)])) ?_
  refine r_iast_n hx hb hK hP hD hS 1 rfl (k := ((5 + (7 * (nE s))) + 5)) (by omega) (by omega) dX8_puts_99 (fun H locs hP hD hS => ?_)
  have hP : va_P dg vwCl [(m0, .inr (8, [.ref ms, .ref mw, .int xs, .ref mt, .int xt, .int xa, .ref su, .ref pt, .ref td, .ref wy])), (ms, .inl (tq.1, 1445, .inl (upd (upd (upd (upd (upd (upd (upd s ((5 + (7 * (nE s))) + 0) (nI (hE s))) ((5 + (7 * (nE s))) + 1) k) ((5 + (7 * (nE s))) + 2) f) ((5 + (7 * (nE s))) + 3) t) ((5 + (7 * (nE s))) + 4) a) ((5 + (7 * (nE s))) + 6) o) ((5 + (7 * (nE s))) + 5) (fitX (me s (hE s) 5) k f t a (nE s)))))] H := hP
  have hD : va_D AA [(m0, .inr (8, [.ref ms, .ref mw, .int xs, .ref mt, .int xt, .int xa, .ref su, .ref pt, .ref td, .ref wy])), (ms, .inl (tq.1, 1445, .inl (upd (upd (upd (upd (upd (upd (upd s ((5 + (7 * (nE s))) + 0) (nI (hE s))) ((5 + (7 * (nE s))) + 1) k) ((5 + (7 * (nE s))) + 2) f) ((5 + (7 * (nE s))) + 3) t) ((5 + (7 * (nE s))) + 4) a) ((5 + (7 * (nE s))) + 6) o) ((5 + (7 * (nE s))) + 5) (fitX (me s (hE s) 5) k f t a (nE s)))))] := hD
  refine lv_aload_n hx hb dX8_puts_100 rfl (lv_at hl 2 rfl) ?_
  refine va_get (D := dg) (ci := 8) (v := .ref ms) (C := RX8) (T := TX8) (N := 10) hx hb hts in8 hown hK hP 0 rfl rfl 0 (by decide) f7 (fun _ h9 => h9) rfl dX8_puts_101 ?_
  refine lv_iconst (v := (nI 0)) hx hb dX8_puts_104 (by decide) ?_
  refine lv_dup2_11 hx hb dX8_puts_105 rfl rfl ?_
  refine r_iald_n hx hb hK hP 1 rfl (k := 0) (by omega) (by omega) dX8_puts_106 ?_
  refine r_top (show ((upd (upd (upd (upd (upd (upd (upd s ((5 + (7 * (nE s))) + 0) (nI (hE s))) ((5 + (7 * (nE s))) + 1) k) ((5 + (7 * (nE s))) + 2) f) ((5 + (7 * (nE s))) + 3) t) ((5 + (7 * (nE s))) + 4) a) ((5 + (7 * (nE s))) + 6) o) ((5 + (7 * (nE s))) + 5) (fitX (me s (hE s) 5) k f t a (nE s))) 0) = (nI (nE s)) from by (repeat rw [pk_un (by omega)]); exact hW.n) ?_
  refine lv_iconst (v := (nI 1)) hx hb dX8_puts_107 (by decide) ?_
  refine r_iadd_n hx hb dX8_puts_108 ?_
  refine r_iast_n hx hb hK hP hD hS 1 rfl (k := 0) (by omega) (by omega) dX8_puts_109 (fun H locs hP hD hS => ?_)
  have hP : va_P dg vwCl [(m0, .inr (8, [.ref ms, .ref mw, .int xs, .ref mt, .int xt, .int xa, .ref su, .ref pt, .ref td, .ref wy])), (ms, .inl (tq.1, 1445, .inl (upd (upd (upd (upd (upd (upd (upd (upd s ((5 + (7 * (nE s))) + 0) (nI (hE s))) ((5 + (7 * (nE s))) + 1) k) ((5 + (7 * (nE s))) + 2) f) ((5 + (7 * (nE s))) + 3) t) ((5 + (7 * (nE s))) + 4) a) ((5 + (7 * (nE s))) + 6) o) ((5 + (7 * (nE s))) + 5) (fitX (me s (hE s) 5) k f t a (nE s))) 0 (nI ((nE s) + 1)))))] H := hP
  have hD : va_D AA [(m0, .inr (8, [.ref ms, .ref mw, .int xs, .ref mt, .int xt, .int xa, .ref su, .ref pt, .ref td, .ref wy])), (ms, .inl (tq.1, 1445, .inl (upd (upd (upd (upd (upd (upd (upd (upd s ((5 + (7 * (nE s))) + 0) (nI (hE s))) ((5 + (7 * (nE s))) + 1) k) ((5 + (7 * (nE s))) + 2) f) ((5 + (7 * (nE s))) + 3) t) ((5 + (7 * (nE s))) + 4) a) ((5 + (7 * (nE s))) + 6) o) ((5 + (7 * (nE s))) + 5) (fitX (me s (hE s) 5) k f t a (nE s))) 0 (nI ((nE s) + 1)))))] := hD
  refine lv_aload_n hx hb dX8_puts_110 rfl (lv_at hl 2 rfl) ?_
  refine va_get (D := dg) (ci := 8) (v := .ref ms) (C := RX8) (T := TX8) (N := 10) hx hb hts in8 hown hK hP 0 rfl rfl 0 (by decide) f7 (fun _ h9 => h9) rfl dX8_puts_111 ?_
  refine lv_iconst (v := (nI 1)) hx hb dX8_puts_114 (by decide) ?_
  refine lv_iload hx hb dX8_puts_115 (lv_at hl 1 rfl) ?_
  refine r_iast_n hx hb hK hP hD hS 1 rfl (k := 1) (by omega) (by omega) dX8_puts_117 (fun H locs hP hD hS => ?_)
  have hP : va_P dg vwCl [(m0, .inr (8, [.ref ms, .ref mw, .int xs, .ref mt, .int xt, .int xa, .ref su, .ref pt, .ref td, .ref wy])), (ms, .inl (tq.1, 1445, .inl (upd (upd (upd (upd (upd (upd (upd (upd (upd s ((5 + (7 * (nE s))) + 0) (nI (hE s))) ((5 + (7 * (nE s))) + 1) k) ((5 + (7 * (nE s))) + 2) f) ((5 + (7 * (nE s))) + 3) t) ((5 + (7 * (nE s))) + 4) a) ((5 + (7 * (nE s))) + 6) o) ((5 + (7 * (nE s))) + 5) (fitX (me s (hE s) 5) k f t a (nE s))) 0 (nI ((nE s) + 1))) 1 (nI (nE s)))))] H := hP
  have hD : va_D AA [(m0, .inr (8, [.ref ms, .ref mw, .int xs, .ref mt, .int xt, .int xa, .ref su, .ref pt, .ref td, .ref wy])), (ms, .inl (tq.1, 1445, .inl (upd (upd (upd (upd (upd (upd (upd (upd (upd s ((5 + (7 * (nE s))) + 0) (nI (hE s))) ((5 + (7 * (nE s))) + 1) k) ((5 + (7 * (nE s))) + 2) f) ((5 + (7 * (nE s))) + 3) t) ((5 + (7 * (nE s))) + 4) a) ((5 + (7 * (nE s))) + 6) o) ((5 + (7 * (nE s))) + 5) (fitX (me s (hE s) 5) k f t a (nE s))) 0 (nI ((nE s) + 1))) 1 (nI (nE s)))))] := hD
  refine lv_iload hx hb dX8_puts_118 (lv_at hl 1 rfl) ?_
  exact hret (nI (nE s)) (()) H locs _ ls (rfl) rfl (hP.sub [0, 1] rfl) (hD.sub [0, 1] (by decide) rfl) hS dX8_puts_120
theorem hdX8_writes : yX8_writes.cls = RX8 ∧ yX8_writes.cls ≠ "java/lang/invoke/MethodHandle" ∧ yX8_writes.cls ≠ "java/lang/invoke/VarHandle" ∧ (parseMethodDescriptor yX8_writes.desc).map (fun d => d.parameters.length) = some 4 := by decide +kernel
set_option maxHeartbeats 4000000 in
set_option maxRecDepth 100000 in
theorem kX8_writes (ln : Launch) (dg : va_G) (tq : ClassId × ClassId) (m0 ms mw mt su pt td wy : Nat) (xt xa : Int32) (st : Nat) (hst : st ≤ 5) (s was : Row) (hW : WF s) (fu_ : Row) (k f t a : Nat) (hk : k < 1000) (hf : f < 6) (ht : t < 6) (ha : a ≤ 999) : MW ln yX8_writes wsX8_writes (rmm 4 86) dg tq [.ref m0, .int (nI k), .int (nI f), .int (nI t), .int (nI a)] [(m0, .inr (8, [.ref ms, .ref mw, .int (nI st), .ref mt, .int xt, .int xa, .ref su, .ref pt, .ref td, .ref wy])), (ms, .inl (tq.1, 1445, .inl s)), (mw, .inl (tq.1, 7225, .inl was)), (su, .inl (tq.1, 6, .inl fu_))] (fun (r : Int32) (u : Row × Row × Nat × Row) => r = (wrR s k f a) ∧ (MACT s was st (wrO s k f a) (wrS s k f t a) u.1 u.2.1 u.2.2.1)) (fun u => [(m0, .inr (8, [.ref ms, .ref mw, .int (nI u.2.2.1), .ref mt, .int xt, .int xa, .ref su, .ref pt, .ref td, .ref wy])), (ms, .inl (tq.1, 1445, .inl u.1)), (mw, .inl (tq.1, 7225, .inl u.2.1)), (su, .inl (tq.1, 6, .inl u.2.2.2))]) := by
  refine MW.enter cX8_writes 6 .int (by decide) rfl rfl (Nat.le_of_ble_eq_true rfl) ?_
  intro pP eE sS mM aA bB mT cC QQ AA hA hAT hret H locs hP hD hS ls hl
  obtain ⟨hx, hb, hml, hown, hts, hK, hN⟩ := hAT
  have hown : sS.vm.findClass RX8 = some mM.cls := hown
  have hl : lv_has ls 6 [(0, .ref m0), (1, .int (nI k)), (2, .int (nI f)), (3, .int (nI t)), (4, .int (nI a))] := hl
  have in8 : ∀ w ∈ u_ws RX8 TX8 10, w ∈ wsX8_writes := (fun _ h9 => List.mem_cons_of_mem _ (List.mem_append_right _ h9))
  have f7 := hts (.fieldLink RX8 7 "OrphanChainModel" "s" "[I") (List.mem_of_getElem? (i := 1) rfl)
  have k71 := hts (.constant RX8 71 (-100002)) (List.mem_of_getElem? (i := 3) rfl)
  have f20 := hts (.fieldLink RX8 20 "OrphanChainModel" "sums" "[I") (List.mem_of_getElem? (i := 2) rfl)
  have k32 := hts (.constant RX8 32 (-100009)) (List.mem_of_getElem? (i := 5) rfl)
  have k72 := hts (.constant RX8 72 (-100003)) (List.mem_of_getElem? (i := 4) rfl)
  have hn60 := hW.n60
  have hb10 := hW.b10
  have hs8 := hW.s8
  have hhn := hW.hn
  have hcl := cntF_le (loudB s) (nB s)
  refine lv_aload_n hx hb dX8_writes_0 rfl (lv_at hl 0 rfl) ?_
  refine lv_aload_n hx hb dX8_writes_1 rfl (lv_at hl 0 rfl) ?_
  refine va_get (D := dg) (ci := 8) (v := .ref ms) (C := RX8) (T := TX8) (N := 10) hx hb hts in8 hown hK hP 0 rfl rfl 0 (by decide) f7 (fun _ h9 => h9) rfl dX8_writes_2 ?_
  refine lv_iconst (v := (nI 1)) hx hb dX8_writes_5 (by decide) ?_
  refine r_iald_n hx hb hK hP 1 rfl (k := 1) (by omega) (by omega) dX8_writes_6 ?_
  refine r_top (show (s 1) = (nI (hE s)) from (hW.h)) ?_
  refine call_v (wr := [(mw, .inl (tq.1, 7225, .inl was))]) (va_runV (As := [.int (nI (hE s))]) (rest := []) ⟨hx, hb, hml, hown, hts⟩ (kX8_balances ln dg tq (m0 := m0) (ms := ms) (mw := mw) (mt := mt) (su := su) (pt := pt) (td := td) (wy := wy) (xs := (nI st)) (xt := xt) (xa := xa) (s := s) (f := fu_) (hW := hW) (y := hE s) (hy := (by omega)) H.size) (cwV 1 hts gX8_writes_X8_balances rfl rfl rfl hdX8_balances ⟨Nat.le_of_ble_eq_true rfl, Nat.le_of_ble_eq_true rfl⟩) (preVB hK hN hP hD [0, 1, 3] rfl rfl rfl 0 rfl rfl [.int (nI (hE s))]) rfl rfl hl.1 rfl (lv_room (Nat.le_of_ble_eq_true rfl)) dX8_writes_7 ⟨Nat.le_refl _, Nat.le_refl _⟩) hP hD hS hA [0, 1, 3] [2] rfl rfl (by decide) (by decide) (fun u7 H locs hw7 hP hD hS => ?_)
  obtain ⟨g7, rfl⟩ : ∃ z, z = u7 := ⟨_, rfl⟩
  have hP : va_P dg vwCl [(mw, .inl (tq.1, 7225, .inl was)), (m0, .inr (8, [.ref ms, .ref mw, .int (nI st), .ref mt, .int xt, .int xa, .ref su, .ref pt, .ref td, .ref wy])), (ms, .inl (tq.1, 1445, .inl s)), (su, .inl (tq.1, 6, .inl g7))] H := hP
  have hD : va_D AA [(mw, .inl (tq.1, 7225, .inl was)), (m0, .inr (8, [.ref ms, .ref mw, .int (nI st), .ref mt, .int xt, .int xa, .ref su, .ref pt, .ref td, .ref wy])), (ms, .inl (tq.1, 1445, .inl s)), (su, .inl (tq.1, 6, .inl g7))] := hD
  refine lv_aload_n hx hb dX8_writes_10 rfl (lv_at hl 0 rfl) ?_
  refine call_x (va_runV (As := []) (rest := []) ⟨hx, hb, hml, hown, hts⟩ (kX8_louds ln dg tq (m0 := m0) (ms := ms) (mw := mw) (mt := mt) (su := su) (pt := pt) (td := td) (wy := wy) (xs := (nI st)) (xt := xt) (xa := xa) (s := s) (hW := hW) H.size) (cwV 0 hts gX8_writes_X8_louds rfl rfl rfl hdX8_louds ⟨Nat.le_of_ble_eq_true rfl, Nat.le_of_ble_eq_true rfl⟩) (preVR hK hN hP [1, 2] rfl 1 rfl rfl []) rfl rfl hl.1 rfl (lv_room (Nat.le_of_ble_eq_true rfl)) dX8_writes_11 ⟨Nat.le_refl _, Nat.le_refl _⟩) hP hS hA (fun H locs hP hS => ?_)
  refine r_if_gt (tgt := 38) hx hb (nI_tI (by omega)) dX8_writes_14 (by decide) (fun c14 => ?_) (fun c14 => ?_)
  · skip
    refine lv_ldc hx hb hown k71 dX8_writes_38 ?_
    exact hret (-100002) (s, was, st, g7) H locs _ ls (show (-100002) = (wrR s k f a) ∧ (MACT s was st (wrO s k f a) (wrS s k f t a) s was st) from (⟨by unfold wrR; rw [if_pos (Or.inl (by omega))], MACT.no (by unfold wrO; rw [decide_eq_false (by omega)]; rfl)⟩)) rfl (hP.sub [1, 2, 0, 3] rfl) (hD.sub [1, 2, 0, 3] (by decide) rfl) hS dX8_writes_40
  · skip
    refine lv_iload_n hx hb dX8_writes_17 rfl (lv_at hl 1 rfl) ?_
    refine lv_iconst (v := (nI 2)) hx hb dX8_writes_18 (by decide) ?_
    refine r_icmp_eq (tgt := 27) hx hb (nI_tI (by omega)) (nI_tI (by omega)) dX8_writes_19 (by decide) (fun c19 => ?_) (fun c19 => ?_)
    · skip
      refine lv_aload_n hx hb dX8_writes_27 rfl (lv_at hl 0 rfl) ?_
      refine va_get (D := dg) (ci := 8) (v := .ref su) (C := RX8) (T := TX8) (N := 10) hx hb hts in8 hown hK hP 1 rfl rfl 6 (by decide) f20 (fun _ h9 => h9) rfl dX8_writes_28 ?_
      have hbd := bal_bd hW hhn f hf
      refine lv_iload_n hx hb dX8_writes_31 rfl (lv_at hl 2 rfl) ?_
      refine r_iald_n hx hb hK hP 3 rfl (k := f) (by omega) (by omega) dX8_writes_32 ?_
      refine r_top (show (g7 f) = (iI (bal s (hE s) f)) from hw7 f hf) ?_
      refine lv_iload hx hb dX8_writes_33 (lv_at hl 4 rfl) ?_
      have hbd := bal_bd hW hhn f hf
      refine r_icmp_ge (tgt := 41) hx hb (iI_toInt (by omega) (by omega)) (nI_tI (by omega)) dX8_writes_35 (by decide) (fun c35 => ?_) (fun c35 => ?_)
      · skip
        have c43 : affB s k f a = true := by unfold affB; rw [decide_eq_true (show k = 2 ∨ k = 3 by omega), decide_eq_true (show (a : Int) ≤ bal s (hE s) f by omega)]; rfl
        refine lv_aload_n hx hb dX8_writes_41 rfl (lv_at hl 0 rfl) ?_
        refine va_get (D := dg) (ci := 8) (v := .ref ms) (C := RX8) (T := TX8) (N := 10) hx hb hts in8 hown hK hP 1 rfl rfl 0 (by decide) f7 (fun _ h9 => h9) rfl dX8_writes_42 ?_
        refine lv_iconst (v := (nI 0)) hx hb dX8_writes_45 (by decide) ?_
        refine r_iald_n hx hb hK hP 2 rfl (k := 0) (by omega) (by omega) dX8_writes_46 ?_
        refine r_top (show (s 0) = (nI (nE s)) from (hW.n)) ?_
        refine lv_bipush (v := (nI 60)) hx hb dX8_writes_47 (by decide) ?_
        refine r_icmp_ne (tgt := 55) hx hb (nI_tI (by omega)) (nI_tI (by omega)) dX8_writes_49 (by decide) (fun c49 => ?_) (fun c49 => ?_)
        · skip
          refine lv_aload_n hx hb dX8_writes_55 rfl (lv_at hl 0 rfl) ?_
          refine call_v (wr := [(su, .inl (tq.1, 6, .inl g7))]) (va_runV (As := []) (rest := []) ⟨hx, hb, hml, hown, hts⟩ (kX8_records ln dg tq (m0 := m0) (ms := ms) (mw := mw) (mt := mt) (su := su) (pt := pt) (td := td) (wy := wy) (xt := xt) (xa := xa) (st := st) (hst := (by omega)) (s := s) (was := was) H.size) (cwV 0 hts gX8_writes_X8_records rfl rfl rfl hdX8_records ⟨Nat.le_of_ble_eq_true rfl, Nat.le_of_ble_eq_true rfl⟩) (preVB hK hN hP hD [1, 2, 0] rfl rfl rfl 1 rfl rfl []) rfl rfl hl.1 rfl (lv_room (Nat.le_of_ble_eq_true rfl)) dX8_writes_56 ⟨Nat.le_refl _, Nat.le_refl _⟩) hP hD hS hA [1, 2, 0] [3] rfl rfl (by decide) (by decide) (fun u56 H locs hw56 hP hD hS => ?_)
          have hP : va_P dg vwCl [(su, .inl (tq.1, 6, .inl g7)), (m0, .inr (8, [.ref ms, .ref mw, .int (nI (recN st)), .ref mt, .int xt, .int xa, .ref su, .ref pt, .ref td, .ref wy])), (ms, .inl (tq.1, 1445, .inl s)), (mw, .inl (tq.1, 7225, .inl (recW was s st)))] H := hP
          have hD : va_D AA [(su, .inl (tq.1, 6, .inl g7)), (m0, .inr (8, [.ref ms, .ref mw, .int (nI (recN st)), .ref mt, .int xt, .int xa, .ref su, .ref pt, .ref td, .ref wy])), (ms, .inl (tq.1, 1445, .inl s)), (mw, .inl (tq.1, 7225, .inl (recW was s st)))] := hD
          refine lv_iconst (v := (nI 0)) hx hb dX8_writes_59 (by decide) ?_
          refine lv_istore (lv' := [(5, .int (nI 0)), (0, .ref m0), (1, .int (nI k)), (2, .int (nI f)), (3, .int (nI t)), (4, .int (nI a))]) hx hb dX8_writes_60 hl (by decide) rfl (fun ls hl => ?_)
          have loop62 : ∀ (fu : Nat) (b_ : Nat) (x_ : Row) (H : Heap) (locs : List Loc) (ls : Array Slot), (x_ = pleadF s b_ ∧ b_ ≤ nB s) → nB s - b_ < fu → va_P dg vwCl [(m0, .inr (8, [.ref ms, .ref mw, .int (nI (recN st)), .ref mt, .int xt, .int xa, .ref su, .ref pt, .ref td, .ref wy])), (ms, .inl (tq.1, 1445, .inl x_)), (mw, .inl (tq.1, 7225, .inl (recW was s st))), (su, .inl (tq.1, 6, .inl g7))] H → va_D AA [(m0, .inr (8, [.ref ms, .ref mw, .int (nI (recN st)), .ref mt, .int xt, .int xa, .ref su, .ref pt, .ref td, .ref wy])), (ms, .inl (tq.1, 1445, .inl x_)), (mw, .inl (tq.1, 7225, .inl (recW was s st))), (su, .inl (tq.1, 6, .inl g7))] → va_S AA sS.heap H locs → lv_has ls 6 [(0, .ref m0), (1, .int (nI k)), (2, .int (nI f)), (3, .int (nI t)), (4, .int (nI a)), (5, .int (nI b_))] → W pP ln eE (rmm 4 86) sS mM aA bB mT cC H locs 0 0 QQ (F0 mM 62 ls []) := by
            intro fu
            induction fu with
            | zero => intro b_ x_ H locs ls _ hm; exact absurd hm (Nat.not_lt_zero _)
            | succ fu ih62 =>
              intro b_ x_ H locs ls hinv hm hP hD hS hl
              obtain ⟨hi1, hi2⟩ := hinv
              refine lv_iload hx hb dX8_writes_62 (lv_at hl 5 rfl) ?_
              refine lv_aload_n hx hb dX8_writes_64 rfl (lv_at hl 0 rfl) ?_
              refine va_get (D := dg) (ci := 8) (v := .ref ms) (C := RX8) (T := TX8) (N := 10) hx hb hts in8 hown hK hP 0 rfl rfl 0 (by decide) f7 (fun _ h9 => h9) rfl dX8_writes_65 ?_
              refine lv_iconst (v := (nI 2)) hx hb dX8_writes_68 (by decide) ?_
              refine r_iald_n hx hb hK hP 1 rfl (k := 2) (by omega) (by omega) dX8_writes_69 ?_
              refine r_top (show (x_ 2) = (nI (nB s)) from by rw [hi1, pleadF_at s _ _ (fun b hb => by omega)]; exact hW.b) ?_
              refine r_icmp_ge (tgt := 111) hx hb (nI_tI (by omega)) (nI_tI (by omega)) dX8_writes_70 (by decide) (fun c70 => ?_) (fun c70 => ?_)
              · skip
                have ew : x_ = (plead s) := by rw [hi1, show b_ = nB s by omega]; rfl
                have hP : va_P dg vwCl [(m0, .inr (8, [.ref ms, .ref mw, .int (nI (recN st)), .ref mt, .int xt, .int xa, .ref su, .ref pt, .ref td, .ref wy])), (ms, .inl (tq.1, 1445, .inl (plead s))), (mw, .inl (tq.1, 7225, .inl (recW was s st))), (su, .inl (tq.1, 6, .inl g7))] H := by rw [← ew]; exact hP
                have hD : va_D AA [(m0, .inr (8, [.ref ms, .ref mw, .int (nI (recN st)), .ref mt, .int xt, .int xa, .ref su, .ref pt, .ref td, .ref wy])), (ms, .inl (tq.1, 1445, .inl (plead s))), (mw, .inl (tq.1, 7225, .inl (recW was s st))), (su, .inl (tq.1, 6, .inl g7))] := by rw [← ew]; exact hD
                refine lv_aload_n hx hb dX8_writes_111 rfl (lv_at hl 0 rfl) ?_
                refine lv_iload_n hx hb dX8_writes_112 rfl (lv_at hl 1 rfl) ?_
                refine lv_iload_n hx hb dX8_writes_113 rfl (lv_at hl 2 rfl) ?_
                refine lv_iload_n hx hb dX8_writes_114 rfl (lv_at hl 3 rfl) ?_
                refine lv_iload hx hb dX8_writes_115 (lv_at hl 4 rfl) ?_
                refine lv_ldc hx hb hown k32 dX8_writes_117 ?_
                refine call_w (wr := [(mw, .inl (tq.1, 7225, .inl (recW was s st))), (su, .inl (tq.1, 6, .inl g7))]) (va_runV (As := [.int (nI k), .int (nI f), .int (nI t), .int (nI a), .int (-100009)]) (rest := []) ⟨hx, hb, hml, hown, hts⟩ (kX8_puts ln dg tq (m0 := m0) (ms := ms) (mw := mw) (mt := mt) (su := su) (pt := pt) (td := td) (wy := wy) (xs := (nI (recN st))) (xt := xt) (xa := xa) (s := plead s) (hW := (WF_plead hW)) (k := (nI k)) (f := (nI f)) (t := (nI t)) (a := (nI a)) (o := (-100009)) (hn := (by rw [nE_plead hW]; omega)) H.size) (cwV 5 hts gX8_writes_X8_puts rfl rfl rfl hdX8_puts ⟨Nat.le_of_ble_eq_true rfl, Nat.le_of_ble_eq_true rfl⟩) (preVB hK hN hP hD [0, 1] rfl rfl rfl 0 rfl rfl [.int (nI k), .int (nI f), .int (nI t), .int (nI a), .int (-100009)]) rfl rfl hl.1 rfl (lv_room (Nat.le_of_ble_eq_true rfl)) dX8_writes_119 ⟨Nat.le_refl _, Nat.le_refl _⟩) hP hD hS hA [0, 1] [2, 3] rfl rfl (by decide) (by decide) (fun r119 u119 H locs hw119 hP hD hS => ?_)
                have hP : va_P dg vwCl [(mw, .inl (tq.1, 7225, .inl (recW was s st))), (su, .inl (tq.1, 6, .inl g7)), (m0, .inr (8, [.ref ms, .ref mw, .int (nI (recN st)), .ref mt, .int xt, .int xa, .ref su, .ref pt, .ref td, .ref wy])), (ms, .inl (tq.1, 1445, .inl (putE (plead s) (nI k) (nI f) (nI t) (nI a) (-100009))))] H := hP
                have hD : va_D AA [(mw, .inl (tq.1, 7225, .inl (recW was s st))), (su, .inl (tq.1, 6, .inl g7)), (m0, .inr (8, [.ref ms, .ref mw, .int (nI (recN st)), .ref mt, .int xt, .int xa, .ref su, .ref pt, .ref td, .ref wy])), (ms, .inl (tq.1, 1445, .inl (putE (plead s) (nI k) (nI f) (nI t) (nI a) (-100009))))] := hD
                subst hw119
                refine r_top (show (nI (nE (plead s))) = (nI (nE s)) from by rw [nE_plead hW]) ?_
                exact hret (nI (nE s)) ((putE (plead s) (nI k) (nI f) (nI t) (nI a) (-100009)), (recW was s st), (recN st), g7) H locs _ ls (show (nI (nE s)) = (wrR s k f a) ∧ (MACT s was st (wrO s k f a) (wrS s k f t a) (putE (plead s) (nI k) (nI f) (nI t) (nI a) (-100009)) (recW was s st) (recN st)) from (⟨by unfold wrR; rw [if_neg (fun z => z.elim (fun z => by omega) (fun z => by rw [c43] at z; cases z)), if_neg (by omega)], MACT.yes (by unfold wrO; rw [c43, decide_eq_true (by omega), decide_eq_false (by omega)]; rfl) rfl⟩)) rfl (hP.sub [2, 3, 0, 1] rfl) (hD.sub [2, 3, 0, 1] (by decide) rfl) hS dX8_writes_122
              · skip
                refine lv_aload_n hx hb dX8_writes_73 rfl (lv_at hl 0 rfl) ?_
                refine va_get (D := dg) (ci := 8) (v := .ref ms) (C := RX8) (T := TX8) (N := 10) hx hb hts in8 hown hK hP 0 rfl rfl 0 (by decide) f7 (fun _ h9 => h9) rfl dX8_writes_74 ?_
                refine lv_sipush (v := (nI 425)) hx hb dX8_writes_77 (by decide) ?_
                refine lv_iconst (v := (nI 4)) hx hb dX8_writes_80 (by decide) ?_
                refine lv_iload hx hb dX8_writes_81 (lv_at hl 5 rfl) ?_
                refine r_imul_n hx hb dX8_writes_83 ?_
                refine r_iadd_n hx hb dX8_writes_84 ?_
                refine lv_iconst (v := (nI 2)) hx hb dX8_writes_85 (by decide) ?_
                refine r_iadd_n hx hb dX8_writes_86 ?_
                refine lv_dup2_11 hx hb dX8_writes_87 rfl rfl ?_
                refine r_iald_n hx hb hK hP 1 rfl (k := ((425 + (4 * b_)) + 2)) (by omega) (by omega) dX8_writes_88 ?_
                refine r_top (show (x_ ((425 + (4 * b_)) + 2)) = (mb s b_ 2) from by rw [hi1, pleadF_pl, if_neg (by omega)]) ?_
                refine lv_aload_n hx hb dX8_writes_89 rfl (lv_at hl 0 rfl) ?_
                refine lv_iload hx hb dX8_writes_90 (lv_at hl 5 rfl) ?_
                refine call_x (va_runV (As := [.int (nI b_)]) (rest := [.int (mb s b_ 2), .int (nI ((425 + (4 * b_)) + 2)), .ref ms]) ⟨hx, hb, hml, hown, hts⟩ (kX8_isWaiting__p ln dg tq (m0 := m0) (ms := ms) (mw := mw) (mt := mt) (su := su) (pt := pt) (td := td) (wy := wy) (xs := (nI (recN st))) (xt := xt) (xa := xa) (x := x_) (s := s) (b := b_) (hb0 := (by omega)) (hst := (by rw [hi1, pleadF_at s _ _ (fun b hb => by omega)])) H.size) (cwV 1 hts gX8_writes_X8_isWaiting rfl rfl rfl hdX8_isWaiting ⟨Nat.le_of_ble_eq_true rfl, Nat.le_of_ble_eq_true rfl⟩) (preVR hK hN hP [0, 1] rfl 0 rfl rfl [.int (nI b_)]) rfl rfl hl.1 rfl (lv_room (Nat.le_of_ble_eq_true rfl)) dX8_writes_92 ⟨Nat.le_refl _, Nat.le_refl _⟩) hP hS hA (fun H locs hP hS => ?_)
                refine r_if_eq_b (tgt := 102) hx hb dX8_writes_95 (by decide) (fun c95 => ?_) (fun c95 => ?_)
                · skip
                  refine lv_iconst (v := (nI 0)) hx hb dX8_writes_102 (by decide) ?_
                  refine lv_iadd hx hb dX8_writes_103 ?_
                  refine r_iast_n hx hb hK hP hD hS 1 rfl (k := ((425 + (4 * b_)) + 2)) (by omega) (by omega) dX8_writes_104 (fun H locs hP hD hS => ?_)
                  have hP : va_P dg vwCl [(m0, .inr (8, [.ref ms, .ref mw, .int (nI (recN st)), .ref mt, .int xt, .int xa, .ref su, .ref pt, .ref td, .ref wy])), (ms, .inl (tq.1, 1445, .inl (upd x_ ((425 + (4 * b_)) + 2) ((mb s b_ 2) + (nI 0))))), (mw, .inl (tq.1, 7225, .inl (recW was s st))), (su, .inl (tq.1, 6, .inl g7))] H := hP
                  have hD : va_D AA [(m0, .inr (8, [.ref ms, .ref mw, .int (nI (recN st)), .ref mt, .int xt, .int xa, .ref su, .ref pt, .ref td, .ref wy])), (ms, .inl (tq.1, 1445, .inl (upd x_ ((425 + (4 * b_)) + 2) ((mb s b_ 2) + (nI 0))))), (mw, .inl (tq.1, 7225, .inl (recW was s st))), (su, .inl (tq.1, 6, .inl g7))] := hD
                  refine lv_iinc (v := (nI (b_ + 1))) (lv' := [(5, .int (nI (b_ + 1))), (0, .ref m0), (1, .int (nI k)), (2, .int (nI f)), (3, .int (nI t)), (4, .int (nI a))]) hx hb dX8_writes_105 hl (k := 5) rfl (nI_add _ _) (by decide) rfl (fun ls hl => ?_)
                  refine lv_goto (tgt := 62) hx hb dX8_writes_108 (by decide) ?_
                  exact ih62 (b_ + 1) (upd x_ ((425 + (4 * b_)) + 2) ((mb s b_ 2) + (nI 0))) H locs ls (⟨by rw [hi1]; exact pleadF_no c95, by omega⟩) (by omega) (hP.sub [0, 1, 2, 3] rfl) (hD.sub [0, 1, 2, 3] (by decide) rfl) hS (lv_sub hl [1, 2, 3, 4, 5, 0] rfl)
                · skip
                  refine lv_iconst (v := (nI 1)) hx hb dX8_writes_98 (by decide) ?_
                  refine lv_goto (tgt := 103) hx hb dX8_writes_99 (by decide) ?_
                  refine lv_iadd hx hb dX8_writes_103 ?_
                  refine r_iast_n hx hb hK hP hD hS 1 rfl (k := ((425 + (4 * b_)) + 2)) (by omega) (by omega) dX8_writes_104 (fun H locs hP hD hS => ?_)
                  have hP : va_P dg vwCl [(m0, .inr (8, [.ref ms, .ref mw, .int (nI (recN st)), .ref mt, .int xt, .int xa, .ref su, .ref pt, .ref td, .ref wy])), (ms, .inl (tq.1, 1445, .inl (upd x_ ((425 + (4 * b_)) + 2) ((mb s b_ 2) + (nI 1))))), (mw, .inl (tq.1, 7225, .inl (recW was s st))), (su, .inl (tq.1, 6, .inl g7))] H := hP
                  have hD : va_D AA [(m0, .inr (8, [.ref ms, .ref mw, .int (nI (recN st)), .ref mt, .int xt, .int xa, .ref su, .ref pt, .ref td, .ref wy])), (ms, .inl (tq.1, 1445, .inl (upd x_ ((425 + (4 * b_)) + 2) ((mb s b_ 2) + (nI 1))))), (mw, .inl (tq.1, 7225, .inl (recW was s st))), (su, .inl (tq.1, 6, .inl g7))] := hD
                  refine lv_iinc (v := (nI (b_ + 1))) (lv' := [(5, .int (nI (b_ + 1))), (0, .ref m0), (1, .int (nI k)), (2, .int (nI f)), (3, .int (nI t)), (4, .int (nI a))]) hx hb dX8_writes_105 hl (k := 5) rfl (nI_add _ _) (by decide) rfl (fun ls hl => ?_)
                  refine lv_goto (tgt := 62) hx hb dX8_writes_108 (by decide) ?_
                  exact ih62 (b_ + 1) (upd x_ ((425 + (4 * b_)) + 2) ((mb s b_ 2) + (nI 1))) H locs ls (⟨by rw [hi1]; exact pleadF_yes c95, by omega⟩) (by omega) (hP.sub [0, 1, 2, 3] rfl) (hD.sub [0, 1, 2, 3] (by decide) rfl) hS (lv_sub hl [1, 2, 3, 4, 5, 0] rfl)
          exact loop62 _ 0 s H locs ls (⟨rfl, by omega⟩) (Nat.lt_succ_self _) (hP.sub [1, 2, 3, 0] rfl) (hD.sub [1, 2, 3, 0] (by decide) rfl) hS (lv_sub hl [1, 2, 3, 4, 5, 0] rfl)
        · skip
          refine lv_ldc hx hb hown k72 dX8_writes_52 ?_
          exact hret (-100003) (s, was, st, g7) H locs _ ls (show (-100003) = (wrR s k f a) ∧ (MACT s was st (wrO s k f a) (wrS s k f t a) s was st) from (⟨by unfold wrR; rw [if_neg (fun z => z.elim (fun z => by omega) (fun z => by rw [c43] at z; cases z)), if_pos (by omega)], MACT.no (by unfold wrO; rw [decide_eq_true (show nE s = 60 by omega)]; simp)⟩)) rfl (hP.sub [1, 2, 0, 3] rfl) (hD.sub [1, 2, 0, 3] (by decide) rfl) hS dX8_writes_54
      · skip
        refine lv_ldc hx hb hown k71 dX8_writes_38 ?_
        exact hret (-100002) (s, was, st, g7) H locs _ ls (show (-100002) = (wrR s k f a) ∧ (MACT s was st (wrO s k f a) (wrS s k f t a) s was st) from (have c43 : affB s k f a = false := (by unfold affB; rw [decide_eq_true (show k = 2 ∨ k = 3 by omega), decide_eq_false (show ¬ (a : Int) ≤ bal s (hE s) f by omega)]; rfl); ⟨by unfold wrR; rw [if_pos (Or.inr c43)], MACT.no (by unfold wrO; rw [c43, Bool.and_false]; rfl)⟩)) rfl (hP.sub [1, 2, 0, 3] rfl) (hD.sub [1, 2, 0, 3] (by decide) rfl) hS dX8_writes_40
    · skip
      refine lv_iload_n hx hb dX8_writes_22 rfl (lv_at hl 1 rfl) ?_
      refine lv_iconst (v := (nI 3)) hx hb dX8_writes_23 (by decide) ?_
      refine r_icmp_ne (tgt := 41) hx hb (nI_tI (by omega)) (nI_tI (by omega)) dX8_writes_24 (by decide) (fun c24 => ?_) (fun c24 => ?_)
      · skip
        have c43 : affB s k f a = true := by unfold affB; rw [decide_eq_false (show ¬ (k = 2 ∨ k = 3) by omega)]; rfl
        refine lv_aload_n hx hb dX8_writes_41 rfl (lv_at hl 0 rfl) ?_
        refine va_get (D := dg) (ci := 8) (v := .ref ms) (C := RX8) (T := TX8) (N := 10) hx hb hts in8 hown hK hP 1 rfl rfl 0 (by decide) f7 (fun _ h9 => h9) rfl dX8_writes_42 ?_
        refine lv_iconst (v := (nI 0)) hx hb dX8_writes_45 (by decide) ?_
        refine r_iald_n hx hb hK hP 2 rfl (k := 0) (by omega) (by omega) dX8_writes_46 ?_
        refine r_top (show (s 0) = (nI (nE s)) from (hW.n)) ?_
        refine lv_bipush (v := (nI 60)) hx hb dX8_writes_47 (by decide) ?_
        refine r_icmp_ne (tgt := 55) hx hb (nI_tI (by omega)) (nI_tI (by omega)) dX8_writes_49 (by decide) (fun c49 => ?_) (fun c49 => ?_)
        · skip
          refine lv_aload_n hx hb dX8_writes_55 rfl (lv_at hl 0 rfl) ?_
          refine call_v (wr := [(su, .inl (tq.1, 6, .inl g7))]) (va_runV (As := []) (rest := []) ⟨hx, hb, hml, hown, hts⟩ (kX8_records ln dg tq (m0 := m0) (ms := ms) (mw := mw) (mt := mt) (su := su) (pt := pt) (td := td) (wy := wy) (xt := xt) (xa := xa) (st := st) (hst := (by omega)) (s := s) (was := was) H.size) (cwV 0 hts gX8_writes_X8_records rfl rfl rfl hdX8_records ⟨Nat.le_of_ble_eq_true rfl, Nat.le_of_ble_eq_true rfl⟩) (preVB hK hN hP hD [1, 2, 0] rfl rfl rfl 1 rfl rfl []) rfl rfl hl.1 rfl (lv_room (Nat.le_of_ble_eq_true rfl)) dX8_writes_56 ⟨Nat.le_refl _, Nat.le_refl _⟩) hP hD hS hA [1, 2, 0] [3] rfl rfl (by decide) (by decide) (fun u56 H locs hw56 hP hD hS => ?_)
          have hP : va_P dg vwCl [(su, .inl (tq.1, 6, .inl g7)), (m0, .inr (8, [.ref ms, .ref mw, .int (nI (recN st)), .ref mt, .int xt, .int xa, .ref su, .ref pt, .ref td, .ref wy])), (ms, .inl (tq.1, 1445, .inl s)), (mw, .inl (tq.1, 7225, .inl (recW was s st)))] H := hP
          have hD : va_D AA [(su, .inl (tq.1, 6, .inl g7)), (m0, .inr (8, [.ref ms, .ref mw, .int (nI (recN st)), .ref mt, .int xt, .int xa, .ref su, .ref pt, .ref td, .ref wy])), (ms, .inl (tq.1, 1445, .inl s)), (mw, .inl (tq.1, 7225, .inl (recW was s st)))] := hD
          refine lv_iconst (v := (nI 0)) hx hb dX8_writes_59 (by decide) ?_
          refine lv_istore (lv' := [(5, .int (nI 0)), (0, .ref m0), (1, .int (nI k)), (2, .int (nI f)), (3, .int (nI t)), (4, .int (nI a))]) hx hb dX8_writes_60 hl (by decide) rfl (fun ls hl => ?_)
          have loop62 : ∀ (fu : Nat) (b_ : Nat) (x_ : Row) (H : Heap) (locs : List Loc) (ls : Array Slot), (x_ = pleadF s b_ ∧ b_ ≤ nB s) → nB s - b_ < fu → va_P dg vwCl [(m0, .inr (8, [.ref ms, .ref mw, .int (nI (recN st)), .ref mt, .int xt, .int xa, .ref su, .ref pt, .ref td, .ref wy])), (ms, .inl (tq.1, 1445, .inl x_)), (mw, .inl (tq.1, 7225, .inl (recW was s st))), (su, .inl (tq.1, 6, .inl g7))] H → va_D AA [(m0, .inr (8, [.ref ms, .ref mw, .int (nI (recN st)), .ref mt, .int xt, .int xa, .ref su, .ref pt, .ref td, .ref wy])), (ms, .inl (tq.1, 1445, .inl x_)), (mw, .inl (tq.1, 7225, .inl (recW was s st))), (su, .inl (tq.1, 6, .inl g7))] → va_S AA sS.heap H locs → lv_has ls 6 [(0, .ref m0), (1, .int (nI k)), (2, .int (nI f)), (3, .int (nI t)), (4, .int (nI a)), (5, .int (nI b_))] → W pP ln eE (rmm 4 86) sS mM aA bB mT cC H locs 0 0 QQ (F0 mM 62 ls []) := by
            intro fu
            induction fu with
            | zero => intro b_ x_ H locs ls _ hm; exact absurd hm (Nat.not_lt_zero _)
            | succ fu ih62 =>
              intro b_ x_ H locs ls hinv hm hP hD hS hl
              obtain ⟨hi1, hi2⟩ := hinv
              refine lv_iload hx hb dX8_writes_62 (lv_at hl 5 rfl) ?_
              refine lv_aload_n hx hb dX8_writes_64 rfl (lv_at hl 0 rfl) ?_
              refine va_get (D := dg) (ci := 8) (v := .ref ms) (C := RX8) (T := TX8) (N := 10) hx hb hts in8 hown hK hP 0 rfl rfl 0 (by decide) f7 (fun _ h9 => h9) rfl dX8_writes_65 ?_
              refine lv_iconst (v := (nI 2)) hx hb dX8_writes_68 (by decide) ?_
              refine r_iald_n hx hb hK hP 1 rfl (k := 2) (by omega) (by omega) dX8_writes_69 ?_
              refine r_top (show (x_ 2) = (nI (nB s)) from by rw [hi1, pleadF_at s _ _ (fun b hb => by omega)]; exact hW.b) ?_
              refine r_icmp_ge (tgt := 111) hx hb (nI_tI (by omega)) (nI_tI (by omega)) dX8_writes_70 (by decide) (fun c70 => ?_) (fun c70 => ?_)
              · skip
                have ew : x_ = (plead s) := by rw [hi1, show b_ = nB s by omega]; rfl
                have hP : va_P dg vwCl [(m0, .inr (8, [.ref ms, .ref mw, .int (nI (recN st)), .ref mt, .int xt, .int xa, .ref su, .ref pt, .ref td, .ref wy])), (ms, .inl (tq.1, 1445, .inl (plead s))), (mw, .inl (tq.1, 7225, .inl (recW was s st))), (su, .inl (tq.1, 6, .inl g7))] H := by rw [← ew]; exact hP
                have hD : va_D AA [(m0, .inr (8, [.ref ms, .ref mw, .int (nI (recN st)), .ref mt, .int xt, .int xa, .ref su, .ref pt, .ref td, .ref wy])), (ms, .inl (tq.1, 1445, .inl (plead s))), (mw, .inl (tq.1, 7225, .inl (recW was s st))), (su, .inl (tq.1, 6, .inl g7))] := by rw [← ew]; exact hD
                refine lv_aload_n hx hb dX8_writes_111 rfl (lv_at hl 0 rfl) ?_
                refine lv_iload_n hx hb dX8_writes_112 rfl (lv_at hl 1 rfl) ?_
                refine lv_iload_n hx hb dX8_writes_113 rfl (lv_at hl 2 rfl) ?_
                refine lv_iload_n hx hb dX8_writes_114 rfl (lv_at hl 3 rfl) ?_
                refine lv_iload hx hb dX8_writes_115 (lv_at hl 4 rfl) ?_
                refine lv_ldc hx hb hown k32 dX8_writes_117 ?_
                refine call_w (wr := [(mw, .inl (tq.1, 7225, .inl (recW was s st))), (su, .inl (tq.1, 6, .inl g7))]) (va_runV (As := [.int (nI k), .int (nI f), .int (nI t), .int (nI a), .int (-100009)]) (rest := []) ⟨hx, hb, hml, hown, hts⟩ (kX8_puts ln dg tq (m0 := m0) (ms := ms) (mw := mw) (mt := mt) (su := su) (pt := pt) (td := td) (wy := wy) (xs := (nI (recN st))) (xt := xt) (xa := xa) (s := plead s) (hW := (WF_plead hW)) (k := (nI k)) (f := (nI f)) (t := (nI t)) (a := (nI a)) (o := (-100009)) (hn := (by rw [nE_plead hW]; omega)) H.size) (cwV 5 hts gX8_writes_X8_puts rfl rfl rfl hdX8_puts ⟨Nat.le_of_ble_eq_true rfl, Nat.le_of_ble_eq_true rfl⟩) (preVB hK hN hP hD [0, 1] rfl rfl rfl 0 rfl rfl [.int (nI k), .int (nI f), .int (nI t), .int (nI a), .int (-100009)]) rfl rfl hl.1 rfl (lv_room (Nat.le_of_ble_eq_true rfl)) dX8_writes_119 ⟨Nat.le_refl _, Nat.le_refl _⟩) hP hD hS hA [0, 1] [2, 3] rfl rfl (by decide) (by decide) (fun r119 u119 H locs hw119 hP hD hS => ?_)
                have hP : va_P dg vwCl [(mw, .inl (tq.1, 7225, .inl (recW was s st))), (su, .inl (tq.1, 6, .inl g7)), (m0, .inr (8, [.ref ms, .ref mw, .int (nI (recN st)), .ref mt, .int xt, .int xa, .ref su, .ref pt, .ref td, .ref wy])), (ms, .inl (tq.1, 1445, .inl (putE (plead s) (nI k) (nI f) (nI t) (nI a) (-100009))))] H := hP
                have hD : va_D AA [(mw, .inl (tq.1, 7225, .inl (recW was s st))), (su, .inl (tq.1, 6, .inl g7)), (m0, .inr (8, [.ref ms, .ref mw, .int (nI (recN st)), .ref mt, .int xt, .int xa, .ref su, .ref pt, .ref td, .ref wy])), (ms, .inl (tq.1, 1445, .inl (putE (plead s) (nI k) (nI f) (nI t) (nI a) (-100009))))] := hD
                subst hw119
                refine r_top (show (nI (nE (plead s))) = (nI (nE s)) from by rw [nE_plead hW]) ?_
                exact hret (nI (nE s)) ((putE (plead s) (nI k) (nI f) (nI t) (nI a) (-100009)), (recW was s st), (recN st), g7) H locs _ ls (show (nI (nE s)) = (wrR s k f a) ∧ (MACT s was st (wrO s k f a) (wrS s k f t a) (putE (plead s) (nI k) (nI f) (nI t) (nI a) (-100009)) (recW was s st) (recN st)) from (⟨by unfold wrR; rw [if_neg (fun z => z.elim (fun z => by omega) (fun z => by rw [c43] at z; cases z)), if_neg (by omega)], MACT.yes (by unfold wrO; rw [c43, decide_eq_true (by omega), decide_eq_false (by omega)]; rfl) rfl⟩)) rfl (hP.sub [2, 3, 0, 1] rfl) (hD.sub [2, 3, 0, 1] (by decide) rfl) hS dX8_writes_122
              · skip
                refine lv_aload_n hx hb dX8_writes_73 rfl (lv_at hl 0 rfl) ?_
                refine va_get (D := dg) (ci := 8) (v := .ref ms) (C := RX8) (T := TX8) (N := 10) hx hb hts in8 hown hK hP 0 rfl rfl 0 (by decide) f7 (fun _ h9 => h9) rfl dX8_writes_74 ?_
                refine lv_sipush (v := (nI 425)) hx hb dX8_writes_77 (by decide) ?_
                refine lv_iconst (v := (nI 4)) hx hb dX8_writes_80 (by decide) ?_
                refine lv_iload hx hb dX8_writes_81 (lv_at hl 5 rfl) ?_
                refine r_imul_n hx hb dX8_writes_83 ?_
                refine r_iadd_n hx hb dX8_writes_84 ?_
                refine lv_iconst (v := (nI 2)) hx hb dX8_writes_85 (by decide) ?_
                refine r_iadd_n hx hb dX8_writes_86 ?_
                refine lv_dup2_11 hx hb dX8_writes_87 rfl rfl ?_
                refine r_iald_n hx hb hK hP 1 rfl (k := ((425 + (4 * b_)) + 2)) (by omega) (by omega) dX8_writes_88 ?_
                refine r_top (show (x_ ((425 + (4 * b_)) + 2)) = (mb s b_ 2) from by rw [hi1, pleadF_pl, if_neg (by omega)]) ?_
                refine lv_aload_n hx hb dX8_writes_89 rfl (lv_at hl 0 rfl) ?_
                refine lv_iload hx hb dX8_writes_90 (lv_at hl 5 rfl) ?_
                refine call_x (va_runV (As := [.int (nI b_)]) (rest := [.int (mb s b_ 2), .int (nI ((425 + (4 * b_)) + 2)), .ref ms]) ⟨hx, hb, hml, hown, hts⟩ (kX8_isWaiting__p ln dg tq (m0 := m0) (ms := ms) (mw := mw) (mt := mt) (su := su) (pt := pt) (td := td) (wy := wy) (xs := (nI (recN st))) (xt := xt) (xa := xa) (x := x_) (s := s) (b := b_) (hb0 := (by omega)) (hst := (by rw [hi1, pleadF_at s _ _ (fun b hb => by omega)])) H.size) (cwV 1 hts gX8_writes_X8_isWaiting rfl rfl rfl hdX8_isWaiting ⟨Nat.le_of_ble_eq_true rfl, Nat.le_of_ble_eq_true rfl⟩) (preVR hK hN hP [0, 1] rfl 0 rfl rfl [.int (nI b_)]) rfl rfl hl.1 rfl (lv_room (Nat.le_of_ble_eq_true rfl)) dX8_writes_92 ⟨Nat.le_refl _, Nat.le_refl _⟩) hP hS hA (fun H locs hP hS => ?_)
                refine r_if_eq_b (tgt := 102) hx hb dX8_writes_95 (by decide) (fun c95 => ?_) (fun c95 => ?_)
                · skip
                  refine lv_iconst (v := (nI 0)) hx hb dX8_writes_102 (by decide) ?_
                  refine lv_iadd hx hb dX8_writes_103 ?_
                  refine r_iast_n hx hb hK hP hD hS 1 rfl (k := ((425 + (4 * b_)) + 2)) (by omega) (by omega) dX8_writes_104 (fun H locs hP hD hS => ?_)
                  have hP : va_P dg vwCl [(m0, .inr (8, [.ref ms, .ref mw, .int (nI (recN st)), .ref mt, .int xt, .int xa, .ref su, .ref pt, .ref td, .ref wy])), (ms, .inl (tq.1, 1445, .inl (upd x_ ((425 + (4 * b_)) + 2) ((mb s b_ 2) + (nI 0))))), (mw, .inl (tq.1, 7225, .inl (recW was s st))), (su, .inl (tq.1, 6, .inl g7))] H := hP
                  have hD : va_D AA [(m0, .inr (8, [.ref ms, .ref mw, .int (nI (recN st)), .ref mt, .int xt, .int xa, .ref su, .ref pt, .ref td, .ref wy])), (ms, .inl (tq.1, 1445, .inl (upd x_ ((425 + (4 * b_)) + 2) ((mb s b_ 2) + (nI 0))))), (mw, .inl (tq.1, 7225, .inl (recW was s st))), (su, .inl (tq.1, 6, .inl g7))] := hD
                  refine lv_iinc (v := (nI (b_ + 1))) (lv' := [(5, .int (nI (b_ + 1))), (0, .ref m0), (1, .int (nI k)), (2, .int (nI f)), (3, .int (nI t)), (4, .int (nI a))]) hx hb dX8_writes_105 hl (k := 5) rfl (nI_add _ _) (by decide) rfl (fun ls hl => ?_)
                  refine lv_goto (tgt := 62) hx hb dX8_writes_108 (by decide) ?_
                  exact ih62 (b_ + 1) (upd x_ ((425 + (4 * b_)) + 2) ((mb s b_ 2) + (nI 0))) H locs ls (⟨by rw [hi1]; exact pleadF_no c95, by omega⟩) (by omega) (hP.sub [0, 1, 2, 3] rfl) (hD.sub [0, 1, 2, 3] (by decide) rfl) hS (lv_sub hl [1, 2, 3, 4, 5, 0] rfl)
                · skip
                  refine lv_iconst (v := (nI 1)) hx hb dX8_writes_98 (by decide) ?_
                  refine lv_goto (tgt := 103) hx hb dX8_writes_99 (by decide) ?_
                  refine lv_iadd hx hb dX8_writes_103 ?_
                  refine r_iast_n hx hb hK hP hD hS 1 rfl (k := ((425 + (4 * b_)) + 2)) (by omega) (by omega) dX8_writes_104 (fun H locs hP hD hS => ?_)
                  have hP : va_P dg vwCl [(m0, .inr (8, [.ref ms, .ref mw, .int (nI (recN st)), .ref mt, .int xt, .int xa, .ref su, .ref pt, .ref td, .ref wy])), (ms, .inl (tq.1, 1445, .inl (upd x_ ((425 + (4 * b_)) + 2) ((mb s b_ 2) + (nI 1))))), (mw, .inl (tq.1, 7225, .inl (recW was s st))), (su, .inl (tq.1, 6, .inl g7))] H := hP
                  have hD : va_D AA [(m0, .inr (8, [.ref ms, .ref mw, .int (nI (recN st)), .ref mt, .int xt, .int xa, .ref su, .ref pt, .ref td, .ref wy])), (ms, .inl (tq.1, 1445, .inl (upd x_ ((425 + (4 * b_)) + 2) ((mb s b_ 2) + (nI 1))))), (mw, .inl (tq.1, 7225, .inl (recW was s st))), (su, .inl (tq.1, 6, .inl g7))] := hD
                  refine lv_iinc (v := (nI (b_ + 1))) (lv' := [(5, .int (nI (b_ + 1))), (0, .ref m0), (1, .int (nI k)), (2, .int (nI f)), (3, .int (nI t)), (4, .int (nI a))]) hx hb dX8_writes_105 hl (k := 5) rfl (nI_add _ _) (by decide) rfl (fun ls hl => ?_)
                  refine lv_goto (tgt := 62) hx hb dX8_writes_108 (by decide) ?_
                  exact ih62 (b_ + 1) (upd x_ ((425 + (4 * b_)) + 2) ((mb s b_ 2) + (nI 1))) H locs ls (⟨by rw [hi1]; exact pleadF_yes c95, by omega⟩) (by omega) (hP.sub [0, 1, 2, 3] rfl) (hD.sub [0, 1, 2, 3] (by decide) rfl) hS (lv_sub hl [1, 2, 3, 4, 5, 0] rfl)
          exact loop62 _ 0 s H locs ls (⟨rfl, by omega⟩) (Nat.lt_succ_self _) (hP.sub [1, 2, 3, 0] rfl) (hD.sub [1, 2, 3, 0] (by decide) rfl) hS (lv_sub hl [1, 2, 3, 4, 5, 0] rfl)
        · skip
          refine lv_ldc hx hb hown k72 dX8_writes_52 ?_
          exact hret (-100003) (s, was, st, g7) H locs _ ls (show (-100003) = (wrR s k f a) ∧ (MACT s was st (wrO s k f a) (wrS s k f t a) s was st) from (⟨by unfold wrR; rw [if_neg (fun z => z.elim (fun z => by omega) (fun z => by rw [c43] at z; cases z)), if_pos (by omega)], MACT.no (by unfold wrO; rw [decide_eq_true (show nE s = 60 by omega)]; simp)⟩)) rfl (hP.sub [1, 2, 0, 3] rfl) (hD.sub [1, 2, 0, 3] (by decide) rfl) hS dX8_writes_54
      · skip
        refine lv_aload_n hx hb dX8_writes_27 rfl (lv_at hl 0 rfl) ?_
        refine va_get (D := dg) (ci := 8) (v := .ref su) (C := RX8) (T := TX8) (N := 10) hx hb hts in8 hown hK hP 1 rfl rfl 6 (by decide) f20 (fun _ h9 => h9) rfl dX8_writes_28 ?_
        have hbd := bal_bd hW hhn f hf
        refine lv_iload_n hx hb dX8_writes_31 rfl (lv_at hl 2 rfl) ?_
        refine r_iald_n hx hb hK hP 3 rfl (k := f) (by omega) (by omega) dX8_writes_32 ?_
        refine r_top (show (g7 f) = (iI (bal s (hE s) f)) from hw7 f hf) ?_
        refine lv_iload hx hb dX8_writes_33 (lv_at hl 4 rfl) ?_
        have hbd := bal_bd hW hhn f hf
        refine r_icmp_ge (tgt := 41) hx hb (iI_toInt (by omega) (by omega)) (nI_tI (by omega)) dX8_writes_35 (by decide) (fun c35 => ?_) (fun c35 => ?_)
        · skip
          have c43 : affB s k f a = true := by unfold affB; rw [decide_eq_true (show k = 2 ∨ k = 3 by omega), decide_eq_true (show (a : Int) ≤ bal s (hE s) f by omega)]; rfl
          refine lv_aload_n hx hb dX8_writes_41 rfl (lv_at hl 0 rfl) ?_
          refine va_get (D := dg) (ci := 8) (v := .ref ms) (C := RX8) (T := TX8) (N := 10) hx hb hts in8 hown hK hP 1 rfl rfl 0 (by decide) f7 (fun _ h9 => h9) rfl dX8_writes_42 ?_
          refine lv_iconst (v := (nI 0)) hx hb dX8_writes_45 (by decide) ?_
          refine r_iald_n hx hb hK hP 2 rfl (k := 0) (by omega) (by omega) dX8_writes_46 ?_
          refine r_top (show (s 0) = (nI (nE s)) from (hW.n)) ?_
          refine lv_bipush (v := (nI 60)) hx hb dX8_writes_47 (by decide) ?_
          refine r_icmp_ne (tgt := 55) hx hb (nI_tI (by omega)) (nI_tI (by omega)) dX8_writes_49 (by decide) (fun c49 => ?_) (fun c49 => ?_)
          · skip
            refine lv_aload_n hx hb dX8_writes_55 rfl (lv_at hl 0 rfl) ?_
            refine call_v (wr := [(su, .inl (tq.1, 6, .inl g7))]) (va_runV (As := []) (rest := []) ⟨hx, hb, hml, hown, hts⟩ (kX8_records ln dg tq (m0 := m0) (ms := ms) (mw := mw) (mt := mt) (su := su) (pt := pt) (td := td) (wy := wy) (xt := xt) (xa := xa) (st := st) (hst := (by omega)) (s := s) (was := was) H.size) (cwV 0 hts gX8_writes_X8_records rfl rfl rfl hdX8_records ⟨Nat.le_of_ble_eq_true rfl, Nat.le_of_ble_eq_true rfl⟩) (preVB hK hN hP hD [1, 2, 0] rfl rfl rfl 1 rfl rfl []) rfl rfl hl.1 rfl (lv_room (Nat.le_of_ble_eq_true rfl)) dX8_writes_56 ⟨Nat.le_refl _, Nat.le_refl _⟩) hP hD hS hA [1, 2, 0] [3] rfl rfl (by decide) (by decide) (fun u56 H locs hw56 hP hD hS => ?_)
            have hP : va_P dg vwCl [(su, .inl (tq.1, 6, .inl g7)), (m0, .inr (8, [.ref ms, .ref mw, .int (nI (recN st)), .ref mt, .int xt, .int xa, .ref su, .ref pt, .ref td, .ref wy])), (ms, .inl (tq.1, 1445, .inl s)), (mw, .inl (tq.1, 7225, .inl (recW was s st)))] H := hP
            have hD : va_D AA [(su, .inl (tq.1, 6, .inl g7)), (m0, .inr (8, [.ref ms, .ref mw, .int (nI (recN st)), .ref mt, .int xt, .int xa, .ref su, .ref pt, .ref td, .ref wy])), (ms, .inl (tq.1, 1445, .inl s)), (mw, .inl (tq.1, 7225, .inl (recW was s st)))] := hD
            refine lv_iconst (v := (nI 0)) hx hb dX8_writes_59 (by decide) ?_
            refine lv_istore (lv' := [(5, .int (nI 0)), (0, .ref m0), (1, .int (nI k)), (2, .int (nI f)), (3, .int (nI t)), (4, .int (nI a))]) hx hb dX8_writes_60 hl (by decide) rfl (fun ls hl => ?_)
            have loop62 : ∀ (fu : Nat) (b_ : Nat) (x_ : Row) (H : Heap) (locs : List Loc) (ls : Array Slot), (x_ = pleadF s b_ ∧ b_ ≤ nB s) → nB s - b_ < fu → va_P dg vwCl [(m0, .inr (8, [.ref ms, .ref mw, .int (nI (recN st)), .ref mt, .int xt, .int xa, .ref su, .ref pt, .ref td, .ref wy])), (ms, .inl (tq.1, 1445, .inl x_)), (mw, .inl (tq.1, 7225, .inl (recW was s st))), (su, .inl (tq.1, 6, .inl g7))] H → va_D AA [(m0, .inr (8, [.ref ms, .ref mw, .int (nI (recN st)), .ref mt, .int xt, .int xa, .ref su, .ref pt, .ref td, .ref wy])), (ms, .inl (tq.1, 1445, .inl x_)), (mw, .inl (tq.1, 7225, .inl (recW was s st))), (su, .inl (tq.1, 6, .inl g7))] → va_S AA sS.heap H locs → lv_has ls 6 [(0, .ref m0), (1, .int (nI k)), (2, .int (nI f)), (3, .int (nI t)), (4, .int (nI a)), (5, .int (nI b_))] → W pP ln eE (rmm 4 86) sS mM aA bB mT cC H locs 0 0 QQ (F0 mM 62 ls []) := by
              intro fu
              induction fu with
              | zero => intro b_ x_ H locs ls _ hm; exact absurd hm (Nat.not_lt_zero _)
              | succ fu ih62 =>
                intro b_ x_ H locs ls hinv hm hP hD hS hl
                obtain ⟨hi1, hi2⟩ := hinv
                refine lv_iload hx hb dX8_writes_62 (lv_at hl 5 rfl) ?_
                refine lv_aload_n hx hb dX8_writes_64 rfl (lv_at hl 0 rfl) ?_
                refine va_get (D := dg) (ci := 8) (v := .ref ms) (C := RX8) (T := TX8) (N := 10) hx hb hts in8 hown hK hP 0 rfl rfl 0 (by decide) f7 (fun _ h9 => h9) rfl dX8_writes_65 ?_
                refine lv_iconst (v := (nI 2)) hx hb dX8_writes_68 (by decide) ?_
                refine r_iald_n hx hb hK hP 1 rfl (k := 2) (by omega) (by omega) dX8_writes_69 ?_
                refine r_top (show (x_ 2) = (nI (nB s)) from by rw [hi1, pleadF_at s _ _ (fun b hb => by omega)]; exact hW.b) ?_
                refine r_icmp_ge (tgt := 111) hx hb (nI_tI (by omega)) (nI_tI (by omega)) dX8_writes_70 (by decide) (fun c70 => ?_) (fun c70 => ?_)
                · skip
                  have ew : x_ = (plead s) := by rw [hi1, show b_ = nB s by omega]; rfl
                  have hP : va_P dg vwCl [(m0, .inr (8, [.ref ms, .ref mw, .int (nI (recN st)), .ref mt, .int xt, .int xa, .ref su, .ref pt, .ref td, .ref wy])), (ms, .inl (tq.1, 1445, .inl (plead s))), (mw, .inl (tq.1, 7225, .inl (recW was s st))), (su, .inl (tq.1, 6, .inl g7))] H := by rw [← ew]; exact hP
                  have hD : va_D AA [(m0, .inr (8, [.ref ms, .ref mw, .int (nI (recN st)), .ref mt, .int xt, .int xa, .ref su, .ref pt, .ref td, .ref wy])), (ms, .inl (tq.1, 1445, .inl (plead s))), (mw, .inl (tq.1, 7225, .inl (recW was s st))), (su, .inl (tq.1, 6, .inl g7))] := by rw [← ew]; exact hD
                  refine lv_aload_n hx hb dX8_writes_111 rfl (lv_at hl 0 rfl) ?_
                  refine lv_iload_n hx hb dX8_writes_112 rfl (lv_at hl 1 rfl) ?_
                  refine lv_iload_n hx hb dX8_writes_113 rfl (lv_at hl 2 rfl) ?_
                  refine lv_iload_n hx hb dX8_writes_114 rfl (lv_at hl 3 rfl) ?_
                  refine lv_iload hx hb dX8_writes_115 (lv_at hl 4 rfl) ?_
                  refine lv_ldc hx hb hown k32 dX8_writes_117 ?_
                  refine call_w (wr := [(mw, .inl (tq.1, 7225, .inl (recW was s st))), (su, .inl (tq.1, 6, .inl g7))]) (va_runV (As := [.int (nI k), .int (nI f), .int (nI t), .int (nI a), .int (-100009)]) (rest := []) ⟨hx, hb, hml, hown, hts⟩ (kX8_puts ln dg tq (m0 := m0) (ms := ms) (mw := mw) (mt := mt) (su := su) (pt := pt) (td := td) (wy := wy) (xs := (nI (recN st))) (xt := xt) (xa := xa) (s := plead s) (hW := (WF_plead hW)) (k := (nI k)) (f := (nI f)) (t := (nI t)) (a := (nI a)) (o := (-100009)) (hn := (by rw [nE_plead hW]; omega)) H.size) (cwV 5 hts gX8_writes_X8_puts rfl rfl rfl hdX8_puts ⟨Nat.le_of_ble_eq_true rfl, Nat.le_of_ble_eq_true rfl⟩) (preVB hK hN hP hD [0, 1] rfl rfl rfl 0 rfl rfl [.int (nI k), .int (nI f), .int (nI t), .int (nI a), .int (-100009)]) rfl rfl hl.1 rfl (lv_room (Nat.le_of_ble_eq_true rfl)) dX8_writes_119 ⟨Nat.le_refl _, Nat.le_refl _⟩) hP hD hS hA [0, 1] [2, 3] rfl rfl (by decide) (by decide) (fun r119 u119 H locs hw119 hP hD hS => ?_)
                  have hP : va_P dg vwCl [(mw, .inl (tq.1, 7225, .inl (recW was s st))), (su, .inl (tq.1, 6, .inl g7)), (m0, .inr (8, [.ref ms, .ref mw, .int (nI (recN st)), .ref mt, .int xt, .int xa, .ref su, .ref pt, .ref td, .ref wy])), (ms, .inl (tq.1, 1445, .inl (putE (plead s) (nI k) (nI f) (nI t) (nI a) (-100009))))] H := hP
                  have hD : va_D AA [(mw, .inl (tq.1, 7225, .inl (recW was s st))), (su, .inl (tq.1, 6, .inl g7)), (m0, .inr (8, [.ref ms, .ref mw, .int (nI (recN st)), .ref mt, .int xt, .int xa, .ref su, .ref pt, .ref td, .ref wy])), (ms, .inl (tq.1, 1445, .inl (putE (plead s) (nI k) (nI f) (nI t) (nI a) (-100009))))] := hD
                  subst hw119
                  refine r_top (show (nI (nE (plead s))) = (nI (nE s)) from by rw [nE_plead hW]) ?_
                  exact hret (nI (nE s)) ((putE (plead s) (nI k) (nI f) (nI t) (nI a) (-100009)), (recW was s st), (recN st), g7) H locs _ ls (show (nI (nE s)) = (wrR s k f a) ∧ (MACT s was st (wrO s k f a) (wrS s k f t a) (putE (plead s) (nI k) (nI f) (nI t) (nI a) (-100009)) (recW was s st) (recN st)) from (⟨by unfold wrR; rw [if_neg (fun z => z.elim (fun z => by omega) (fun z => by rw [c43] at z; cases z)), if_neg (by omega)], MACT.yes (by unfold wrO; rw [c43, decide_eq_true (by omega), decide_eq_false (by omega)]; rfl) rfl⟩)) rfl (hP.sub [2, 3, 0, 1] rfl) (hD.sub [2, 3, 0, 1] (by decide) rfl) hS dX8_writes_122
                · skip
                  refine lv_aload_n hx hb dX8_writes_73 rfl (lv_at hl 0 rfl) ?_
                  refine va_get (D := dg) (ci := 8) (v := .ref ms) (C := RX8) (T := TX8) (N := 10) hx hb hts in8 hown hK hP 0 rfl rfl 0 (by decide) f7 (fun _ h9 => h9) rfl dX8_writes_74 ?_
                  refine lv_sipush (v := (nI 425)) hx hb dX8_writes_77 (by decide) ?_
                  refine lv_iconst (v := (nI 4)) hx hb dX8_writes_80 (by decide) ?_
                  refine lv_iload hx hb dX8_writes_81 (lv_at hl 5 rfl) ?_
                  refine r_imul_n hx hb dX8_writes_83 ?_
                  refine r_iadd_n hx hb dX8_writes_84 ?_
                  refine lv_iconst (v := (nI 2)) hx hb dX8_writes_85 (by decide) ?_
                  refine r_iadd_n hx hb dX8_writes_86 ?_
                  refine lv_dup2_11 hx hb dX8_writes_87 rfl rfl ?_
                  refine r_iald_n hx hb hK hP 1 rfl (k := ((425 + (4 * b_)) + 2)) (by omega) (by omega) dX8_writes_88 ?_
                  refine r_top (show (x_ ((425 + (4 * b_)) + 2)) = (mb s b_ 2) from by rw [hi1, pleadF_pl, if_neg (by omega)]) ?_
                  refine lv_aload_n hx hb dX8_writes_89 rfl (lv_at hl 0 rfl) ?_
                  refine lv_iload hx hb dX8_writes_90 (lv_at hl 5 rfl) ?_
                  refine call_x (va_runV (As := [.int (nI b_)]) (rest := [.int (mb s b_ 2), .int (nI ((425 + (4 * b_)) + 2)), .ref ms]) ⟨hx, hb, hml, hown, hts⟩ (kX8_isWaiting__p ln dg tq (m0 := m0) (ms := ms) (mw := mw) (mt := mt) (su := su) (pt := pt) (td := td) (wy := wy) (xs := (nI (recN st))) (xt := xt) (xa := xa) (x := x_) (s := s) (b := b_) (hb0 := (by omega)) (hst := (by rw [hi1, pleadF_at s _ _ (fun b hb => by omega)])) H.size) (cwV 1 hts gX8_writes_X8_isWaiting rfl rfl rfl hdX8_isWaiting ⟨Nat.le_of_ble_eq_true rfl, Nat.le_of_ble_eq_true rfl⟩) (preVR hK hN hP [0, 1] rfl 0 rfl rfl [.int (nI b_)]) rfl rfl hl.1 rfl (lv_room (Nat.le_of_ble_eq_true rfl)) dX8_writes_92 ⟨Nat.le_refl _, Nat.le_refl _⟩) hP hS hA (fun H locs hP hS => ?_)
                  refine r_if_eq_b (tgt := 102) hx hb dX8_writes_95 (by decide) (fun c95 => ?_) (fun c95 => ?_)
                  · skip
                    refine lv_iconst (v := (nI 0)) hx hb dX8_writes_102 (by decide) ?_
                    refine lv_iadd hx hb dX8_writes_103 ?_
                    refine r_iast_n hx hb hK hP hD hS 1 rfl (k := ((425 + (4 * b_)) + 2)) (by omega) (by omega) dX8_writes_104 (fun H locs hP hD hS => ?_)
                    have hP : va_P dg vwCl [(m0, .inr (8, [.ref ms, .ref mw, .int (nI (recN st)), .ref mt, .int xt, .int xa, .ref su, .ref pt, .ref td, .ref wy])), (ms, .inl (tq.1, 1445, .inl (upd x_ ((425 + (4 * b_)) + 2) ((mb s b_ 2) + (nI 0))))), (mw, .inl (tq.1, 7225, .inl (recW was s st))), (su, .inl (tq.1, 6, .inl g7))] H := hP
                    have hD : va_D AA [(m0, .inr (8, [.ref ms, .ref mw, .int (nI (recN st)), .ref mt, .int xt, .int xa, .ref su, .ref pt, .ref td, .ref wy])), (ms, .inl (tq.1, 1445, .inl (upd x_ ((425 + (4 * b_)) + 2) ((mb s b_ 2) + (nI 0))))), (mw, .inl (tq.1, 7225, .inl (recW was s st))), (su, .inl (tq.1, 6, .inl g7))] := hD
                    refine lv_iinc (v := (nI (b_ + 1))) (lv' := [(5, .int (nI (b_ + 1))), (0, .ref m0), (1, .int (nI k)), (2, .int (nI f)), (3, .int (nI t)), (4, .int (nI a))]) hx hb dX8_writes_105 hl (k := 5) rfl (nI_add _ _) (by decide) rfl (fun ls hl => ?_)
                    refine lv_goto (tgt := 62) hx hb dX8_writes_108 (by decide) ?_
                    exact ih62 (b_ + 1) (upd x_ ((425 + (4 * b_)) + 2) ((mb s b_ 2) + (nI 0))) H locs ls (⟨by rw [hi1]; exact pleadF_no c95, by omega⟩) (by omega) (hP.sub [0, 1, 2, 3] rfl) (hD.sub [0, 1, 2, 3] (by decide) rfl) hS (lv_sub hl [1, 2, 3, 4, 5, 0] rfl)
                  · skip
                    refine lv_iconst (v := (nI 1)) hx hb dX8_writes_98 (by decide) ?_
                    refine lv_goto (tgt := 103) hx hb dX8_writes_99 (by decide) ?_
                    refine lv_iadd hx hb dX8_writes_103 ?_
                    refine r_iast_n hx hb hK hP hD hS 1 rfl (k := ((425 + (4 * b_)) + 2)) (by omega) (by omega) dX8_writes_104 (fun H locs hP hD hS => ?_)
                    have hP : va_P dg vwCl [(m0, .inr (8, [.ref ms, .ref mw, .int (nI (recN st)), .ref mt, .int xt, .int xa, .ref su, .ref pt, .ref td, .ref wy])), (ms, .inl (tq.1, 1445, .inl (upd x_ ((425 + (4 * b_)) + 2) ((mb s b_ 2) + (nI 1))))), (mw, .inl (tq.1, 7225, .inl (recW was s st))), (su, .inl (tq.1, 6, .inl g7))] H := hP
                    have hD : va_D AA [(m0, .inr (8, [.ref ms, .ref mw, .int (nI (recN st)), .ref mt, .int xt, .int xa, .ref su, .ref pt, .ref td, .ref wy])), (ms, .inl (tq.1, 1445, .inl (upd x_ ((425 + (4 * b_)) + 2) ((mb s b_ 2) + (nI 1))))), (mw, .inl (tq.1, 7225, .inl (recW was s st))), (su, .inl (tq.1, 6, .inl g7))] := hD
                    refine lv_iinc (v := (nI (b_ + 1))) (lv' := [(5, .int (nI (b_ + 1))), (0, .ref m0), (1, .int (nI k)), (2, .int (nI f)), (3, .int (nI t)), (4, .int (nI a))]) hx hb dX8_writes_105 hl (k := 5) rfl (nI_add _ _) (by decide) rfl (fun ls hl => ?_)
                    refine lv_goto (tgt := 62) hx hb dX8_writes_108 (by decide) ?_
                    exact ih62 (b_ + 1) (upd x_ ((425 + (4 * b_)) + 2) ((mb s b_ 2) + (nI 1))) H locs ls (⟨by rw [hi1]; exact pleadF_yes c95, by omega⟩) (by omega) (hP.sub [0, 1, 2, 3] rfl) (hD.sub [0, 1, 2, 3] (by decide) rfl) hS (lv_sub hl [1, 2, 3, 4, 5, 0] rfl)
            exact loop62 _ 0 s H locs ls (⟨rfl, by omega⟩) (Nat.lt_succ_self _) (hP.sub [1, 2, 3, 0] rfl) (hD.sub [1, 2, 3, 0] (by decide) rfl) hS (lv_sub hl [1, 2, 3, 4, 5, 0] rfl)
          · skip
            refine lv_ldc hx hb hown k72 dX8_writes_52 ?_
            exact hret (-100003) (s, was, st, g7) H locs _ ls (show (-100003) = (wrR s k f a) ∧ (MACT s was st (wrO s k f a) (wrS s k f t a) s was st) from (⟨by unfold wrR; rw [if_neg (fun z => z.elim (fun z => by omega) (fun z => by rw [c43] at z; cases z)), if_pos (by omega)], MACT.no (by unfold wrO; rw [decide_eq_true (show nE s = 60 by omega)]; simp)⟩)) rfl (hP.sub [1, 2, 0, 3] rfl) (hD.sub [1, 2, 0, 3] (by decide) rfl) hS dX8_writes_54
        · skip
          refine lv_ldc hx hb hown k71 dX8_writes_38 ?_
          exact hret (-100002) (s, was, st, g7) H locs _ ls (show (-100002) = (wrR s k f a) ∧ (MACT s was st (wrO s k f a) (wrS s k f t a) s was st) from (have c43 : affB s k f a = false := (by unfold affB; rw [decide_eq_true (show k = 2 ∨ k = 3 by omega), decide_eq_false (show ¬ (a : Int) ≤ bal s (hE s) f by omega)]; rfl); ⟨by unfold wrR; rw [if_pos (Or.inr c43)], MACT.no (by unfold wrO; rw [c43, Bool.and_false]; rfl)⟩)) rfl (hP.sub [1, 2, 0, 3] rfl) (hD.sub [1, 2, 0, 3] (by decide) rfl) hS dX8_writes_40
theorem hdX8_deposit : yX8_deposit.cls = RX8 ∧ yX8_deposit.cls ≠ "java/lang/invoke/MethodHandle" ∧ yX8_deposit.cls ≠ "java/lang/invoke/VarHandle" ∧ (parseMethodDescriptor yX8_deposit.desc).map (fun d => d.parameters.length) = some 2 := by decide +kernel
set_option maxHeartbeats 4000000 in
set_option maxRecDepth 100000 in
theorem kX8_deposit (ln : Launch) (dg : va_G) (tq : ClassId × ClassId) (m0 ms mw mt su pt td wy : Nat) (xt xa : Int32) (st : Nat) (hst : st ≤ 5) (s was : Row) (hW : WF s) (fu_ : Row) (to am : Int32) : MW ln yX8_deposit wsX8_deposit (rmm 5 111) dg tq [.ref m0, .int to, .int am] [(m0, .inr (8, [.ref ms, .ref mw, .int (nI st), .ref mt, .int xt, .int xa, .ref su, .ref pt, .ref td, .ref wy])), (ms, .inl (tq.1, 1445, .inl s)), (mw, .inl (tq.1, 7225, .inl was)), (su, .inl (tq.1, 6, .inl fu_))] (fun (r : Int32) (u : Row × Row × Nat × Row) => r = (dpR s to am) ∧ (MACT s was st (dpO s to am) (dpS s to am) u.1 u.2.1 u.2.2.1)) (fun u => [(m0, .inr (8, [.ref ms, .ref mw, .int (nI u.2.2.1), .ref mt, .int xt, .int xa, .ref su, .ref pt, .ref td, .ref wy])), (ms, .inl (tq.1, 1445, .inl u.1)), (mw, .inl (tq.1, 7225, .inl u.2.1)), (su, .inl (tq.1, 6, .inl u.2.2.2))]) := by
  refine MW.enter cX8_deposit 3 .int (by decide) rfl rfl (Nat.le_of_ble_eq_true rfl) ?_
  intro pP eE sS mM aA bB mT cC QQ AA hA hAT hret H locs hP hD hS ls hl
  obtain ⟨hx, hb, hml, hown, hts, hK, hN⟩ := hAT
  have hown : sS.vm.findClass RX8 = some mM.cls := hown
  have hl : lv_has ls 3 [(0, .ref m0), (1, .int to), (2, .int am)] := hl
  have k84 := hts (.constant RX8 84 (-100001)) (List.mem_of_getElem? (i := 1) rfl)
  have hn60 := hW.n60
  have hb10 := hW.b10
  have hs8 := hW.s8
  have hhn := hW.hn
  refine lv_iload_n hx hb dX8_deposit_0 rfl (lv_at hl 1 rfl) ?_
  refine lv_iconst (v := (nI 0)) hx hb dX8_deposit_1 (by decide) ?_
  refine lv_iconst (v := (nI 5)) hx hb dX8_deposit_2 (by decide) ?_
  refine call_x (va_runS (As := [.int to, .int (nI 0), .int (nI 5)]) (rest := []) ⟨hx, hb, hml, hown, hts⟩ (kX8_in ln dg tq (v := to) (lo := (nI 0)) (hi := (nI 5)) H.size) (va_cwS 3 hts gX8_deposit_X8_in rfl rfl rfl hdX8_in.2 ⟨Nat.le_of_ble_eq_true rfl, Nat.le_of_ble_eq_true rfl⟩) (preS0 hK hN [.int to, .int (nI 0), .int (nI 5)]) rfl rfl hl.1 rfl (lv_room (Nat.le_of_ble_eq_true rfl)) dX8_deposit_3 ⟨Nat.le_refl _, Nat.le_refl _⟩) hP hS hA (fun H locs hP hS => ?_)
  refine r_if_eq_b (tgt := 31) hx hb dX8_deposit_6 (by decide) (fun c6 => ?_) (fun c6 => ?_)
  · skip
    refine lv_ldc hx hb hown k84 dX8_deposit_31 ?_
    exact hret (-100001) (s, was, st, fu_) H locs _ ls (show (-100001) = (dpR s to am) ∧ (MACT s was st (dpO s to am) (dpS s to am) s was st) from (⟨by simp [dpR, dpP, c6], MACT.no (by simp [dpO, dpP, c6])⟩)) rfl (hP.sub [0, 1, 2, 3] rfl) (hD.sub [0, 1, 2, 3] (by decide) rfl) hS dX8_deposit_33
  · skip
    refine lv_iload_n hx hb dX8_deposit_9 rfl (lv_at hl 2 rfl) ?_
    refine lv_iconst (v := (nI 1)) hx hb dX8_deposit_10 (by decide) ?_
    refine lv_sipush (v := (nI 999)) hx hb dX8_deposit_11 (by decide) ?_
    refine call_x (va_runS (As := [.int am, .int (nI 1), .int (nI 999)]) (rest := []) ⟨hx, hb, hml, hown, hts⟩ (kX8_in ln dg tq (v := am) (lo := (nI 1)) (hi := (nI 999)) H.size) (va_cwS 3 hts gX8_deposit_X8_in rfl rfl rfl hdX8_in.2 ⟨Nat.le_of_ble_eq_true rfl, Nat.le_of_ble_eq_true rfl⟩) (preS0 hK hN [.int am, .int (nI 1), .int (nI 999)]) rfl rfl hl.1 rfl (lv_room (Nat.le_of_ble_eq_true rfl)) dX8_deposit_14 ⟨Nat.le_refl _, Nat.le_refl _⟩) hP hS hA (fun H locs hP hS => ?_)
    refine r_if_eq_b (tgt := 31) hx hb dX8_deposit_17 (by decide) (fun c17 => ?_) (fun c17 => ?_)
    · skip
      refine lv_ldc hx hb hown k84 dX8_deposit_31 ?_
      exact hret (-100001) (s, was, st, fu_) H locs _ ls (show (-100001) = (dpR s to am) ∧ (MACT s was st (dpO s to am) (dpS s to am) s was st) from (⟨by simp [dpR, dpP, c6, c17], MACT.no (by simp [dpO, dpP, c6, c17])⟩)) rfl (hP.sub [0, 1, 2, 3] rfl) (hD.sub [0, 1, 2, 3] (by decide) rfl) hS dX8_deposit_33
    · skip
      obtain ⟨tk_, htk_1, htk_2, rfl⟩ := inR_t (by omega) (by omega) c6
      obtain ⟨ak_, hak_1, hak_2, rfl⟩ := inR_t (by omega) (by omega) c17
      refine lv_aload_n hx hb dX8_deposit_20 rfl (lv_at hl 0 rfl) ?_
      refine lv_iconst (v := (nI 1)) hx hb dX8_deposit_21 (by decide) ?_
      refine lv_iconst (v := (nI 0)) hx hb dX8_deposit_22 (by decide) ?_
      refine lv_iload_n hx hb dX8_deposit_23 rfl (lv_at hl 1 rfl) ?_
      refine lv_iload_n hx hb dX8_deposit_24 rfl (lv_at hl 2 rfl) ?_
      refine call_w (wr := []) (va_runV (As := [.int (nI 1), .int (nI 0), .int (nI tk_), .int (nI ak_)]) (rest := []) ⟨hx, hb, hml, hown, hts⟩ (kX8_writes ln dg tq (m0 := m0) (ms := ms) (mw := mw) (mt := mt) (su := su) (pt := pt) (td := td) (wy := wy) (xt := xt) (xa := xa) (st := st) (hst := (by omega)) (s := s) (was := was) (hW := hW) (fu_ := fu_) (k := 1) (f := 0) (t := tk_) (a := ak_) (hk := (by omega)) (hf := (by omega)) (ht := (by omega)) (ha := (by omega)) H.size) (cwV 4 hts gX8_deposit_X8_writes rfl rfl rfl hdX8_writes ⟨Nat.le_of_ble_eq_true rfl, Nat.le_of_ble_eq_true rfl⟩) (preVB hK hN hP hD [0, 1, 2, 3] rfl rfl rfl 0 rfl rfl [.int (nI 1), .int (nI 0), .int (nI tk_), .int (nI ak_)]) rfl rfl hl.1 rfl (lv_room (Nat.le_of_ble_eq_true rfl)) dX8_deposit_25 ⟨Nat.le_refl _, Nat.le_refl _⟩) hP hD hS hA [0, 1, 2, 3] [] rfl rfl (by decide) (by decide) (fun r25 u25 H locs hw25 hP hD hS => ?_)
      obtain ⟨s225, w225, st225, f225⟩ := u25
      have hP : va_P dg vwCl [(m0, .inr (8, [.ref ms, .ref mw, .int (nI st225), .ref mt, .int xt, .int xa, .ref su, .ref pt, .ref td, .ref wy])), (ms, .inl (tq.1, 1445, .inl s225)), (mw, .inl (tq.1, 7225, .inl w225)), (su, .inl (tq.1, 6, .inl f225))] H := hP
      have hD : va_D AA [(m0, .inr (8, [.ref ms, .ref mw, .int (nI st225), .ref mt, .int xt, .int xa, .ref su, .ref pt, .ref td, .ref wy])), (ms, .inl (tq.1, 1445, .inl s225)), (mw, .inl (tq.1, 7225, .inl w225)), (su, .inl (tq.1, 6, .inl f225))] := hD
      obtain ⟨hr25, hw25⟩ := hw25
      subst hr25
      refine lv_goto (tgt := 33) hx hb dX8_deposit_28 (by decide) ?_
      exact hret (wrR s 1 0 ak_) (s225, w225, st225, f225) H locs _ ls (show (wrR s 1 0 ak_) = (dpR s (nI tk_) (nI ak_)) ∧ (MACT s was st (dpO s (nI tk_) (nI ak_)) (dpS s (nI tk_) (nI ak_)) s225 w225 st225) from (by unfold dpR dpO dpS dpP; rw [c6, c17, cl_n (show ak_ < 2147483648 by omega), cl_n (show tk_ < 2147483648 by omega)]; exact ⟨rfl, hw25⟩)) rfl (hP.sub [0, 1, 2, 3] rfl) (hD.sub [0, 1, 2, 3] (by decide) rfl) hS dX8_deposit_33
theorem hdX8_pay : yX8_pay.cls = RX8 ∧ yX8_pay.cls ≠ "java/lang/invoke/MethodHandle" ∧ yX8_pay.cls ≠ "java/lang/invoke/VarHandle" ∧ (parseMethodDescriptor yX8_pay.desc).map (fun d => d.parameters.length) = some 3 := by decide +kernel
set_option maxHeartbeats 4000000 in
set_option maxRecDepth 100000 in
theorem kX8_pay (ln : Launch) (dg : va_G) (tq : ClassId × ClassId) (m0 ms mw mt su pt td wy : Nat) (xt xa : Int32) (st : Nat) (hst : st ≤ 5) (s was : Row) (hW : WF s) (fu_ : Row) (f t am : Int32) : MW ln yX8_pay wsX8_pay (rmm 5 111) dg tq [.ref m0, .int f, .int t, .int am] [(m0, .inr (8, [.ref ms, .ref mw, .int (nI st), .ref mt, .int xt, .int xa, .ref su, .ref pt, .ref td, .ref wy])), (ms, .inl (tq.1, 1445, .inl s)), (mw, .inl (tq.1, 7225, .inl was)), (su, .inl (tq.1, 6, .inl fu_))] (fun (r : Int32) (u : Row × Row × Nat × Row) => r = (pyR s f t am) ∧ (MACT s was st (pyO s f t am) (pyS s f t am) u.1 u.2.1 u.2.2.1)) (fun u => [(m0, .inr (8, [.ref ms, .ref mw, .int (nI u.2.2.1), .ref mt, .int xt, .int xa, .ref su, .ref pt, .ref td, .ref wy])), (ms, .inl (tq.1, 1445, .inl u.1)), (mw, .inl (tq.1, 7225, .inl u.2.1)), (su, .inl (tq.1, 6, .inl u.2.2.2))]) := by
  refine MW.enter cX8_pay 4 .int (by decide) rfl rfl (Nat.le_of_ble_eq_true rfl) ?_
  intro pP eE sS mM aA bB mT cC QQ AA hA hAT hret H locs hP hD hS ls hl
  obtain ⟨hx, hb, hml, hown, hts, hK, hN⟩ := hAT
  have hown : sS.vm.findClass RX8 = some mM.cls := hown
  have hl : lv_has ls 4 [(0, .ref m0), (1, .int f), (2, .int t), (3, .int am)] := hl
  have k84 := hts (.constant RX8 84 (-100001)) (List.mem_of_getElem? (i := 1) rfl)
  have hn60 := hW.n60
  have hb10 := hW.b10
  have hs8 := hW.s8
  have hhn := hW.hn
  refine lv_iload_n hx hb dX8_pay_0 rfl (lv_at hl 1 rfl) ?_
  refine lv_iconst (v := (nI 1)) hx hb dX8_pay_1 (by decide) ?_
  refine lv_iconst (v := (nI 5)) hx hb dX8_pay_2 (by decide) ?_
  refine call_x (va_runS (As := [.int f, .int (nI 1), .int (nI 5)]) (rest := []) ⟨hx, hb, hml, hown, hts⟩ (kX8_in ln dg tq (v := f) (lo := (nI 1)) (hi := (nI 5)) H.size) (va_cwS 3 hts gX8_pay_X8_in rfl rfl rfl hdX8_in.2 ⟨Nat.le_of_ble_eq_true rfl, Nat.le_of_ble_eq_true rfl⟩) (preS0 hK hN [.int f, .int (nI 1), .int (nI 5)]) rfl rfl hl.1 rfl (lv_room (Nat.le_of_ble_eq_true rfl)) dX8_pay_3 ⟨Nat.le_refl _, Nat.le_refl _⟩) hP hS hA (fun H locs hP hS => ?_)
  refine r_if_eq_b (tgt := 45) hx hb dX8_pay_6 (by decide) (fun c6 => ?_) (fun c6 => ?_)
  · skip
    refine lv_ldc hx hb hown k84 dX8_pay_45 ?_
    exact hret (-100001) (s, was, st, fu_) H locs _ ls (show (-100001) = (pyR s f t am) ∧ (MACT s was st (pyO s f t am) (pyS s f t am) s was st) from (⟨by simp [pyR, pyP, c6], MACT.no (by simp [pyO, pyP, c6])⟩)) rfl (hP.sub [0, 1, 2, 3] rfl) (hD.sub [0, 1, 2, 3] (by decide) rfl) hS dX8_pay_47
  · skip
    refine lv_iload_n hx hb dX8_pay_9 rfl (lv_at hl 2 rfl) ?_
    refine lv_iconst (v := (nI 1)) hx hb dX8_pay_10 (by decide) ?_
    refine lv_iconst (v := (nI 5)) hx hb dX8_pay_11 (by decide) ?_
    refine call_x (va_runS (As := [.int t, .int (nI 1), .int (nI 5)]) (rest := []) ⟨hx, hb, hml, hown, hts⟩ (kX8_in ln dg tq (v := t) (lo := (nI 1)) (hi := (nI 5)) H.size) (va_cwS 3 hts gX8_pay_X8_in rfl rfl rfl hdX8_in.2 ⟨Nat.le_of_ble_eq_true rfl, Nat.le_of_ble_eq_true rfl⟩) (preS0 hK hN [.int t, .int (nI 1), .int (nI 5)]) rfl rfl hl.1 rfl (lv_room (Nat.le_of_ble_eq_true rfl)) dX8_pay_12 ⟨Nat.le_refl _, Nat.le_refl _⟩) hP hS hA (fun H locs hP hS => ?_)
    refine r_if_eq_b (tgt := 45) hx hb dX8_pay_15 (by decide) (fun c15 => ?_) (fun c15 => ?_)
    · skip
      refine lv_ldc hx hb hown k84 dX8_pay_45 ?_
      exact hret (-100001) (s, was, st, fu_) H locs _ ls (show (-100001) = (pyR s f t am) ∧ (MACT s was st (pyO s f t am) (pyS s f t am) s was st) from (⟨by simp [pyR, pyP, c6, c15], MACT.no (by simp [pyO, pyP, c6, c15])⟩)) rfl (hP.sub [0, 1, 2, 3] rfl) (hD.sub [0, 1, 2, 3] (by decide) rfl) hS dX8_pay_47
    · skip
      refine lv_iload_n hx hb dX8_pay_18 rfl (lv_at hl 3 rfl) ?_
      refine lv_iconst (v := (nI 1)) hx hb dX8_pay_19 (by decide) ?_
      refine lv_sipush (v := (nI 999)) hx hb dX8_pay_20 (by decide) ?_
      refine call_x (va_runS (As := [.int am, .int (nI 1), .int (nI 999)]) (rest := []) ⟨hx, hb, hml, hown, hts⟩ (kX8_in ln dg tq (v := am) (lo := (nI 1)) (hi := (nI 999)) H.size) (va_cwS 3 hts gX8_pay_X8_in rfl rfl rfl hdX8_in.2 ⟨Nat.le_of_ble_eq_true rfl, Nat.le_of_ble_eq_true rfl⟩) (preS0 hK hN [.int am, .int (nI 1), .int (nI 999)]) rfl rfl hl.1 rfl (lv_room (Nat.le_of_ble_eq_true rfl)) dX8_pay_23 ⟨Nat.le_refl _, Nat.le_refl _⟩) hP hS hA (fun H locs hP hS => ?_)
      refine r_if_eq_b (tgt := 45) hx hb dX8_pay_26 (by decide) (fun c26 => ?_) (fun c26 => ?_)
      · skip
        refine lv_ldc hx hb hown k84 dX8_pay_45 ?_
        exact hret (-100001) (s, was, st, fu_) H locs _ ls (show (-100001) = (pyR s f t am) ∧ (MACT s was st (pyO s f t am) (pyS s f t am) s was st) from (⟨by simp [pyR, pyP, c6, c15, c26], MACT.no (by simp [pyO, pyP, c6, c15, c26])⟩)) rfl (hP.sub [0, 1, 2, 3] rfl) (hD.sub [0, 1, 2, 3] (by decide) rfl) hS dX8_pay_47
      · skip
        refine lv_iload_n hx hb dX8_pay_29 rfl (lv_at hl 1 rfl) ?_
        refine lv_iload_n hx hb dX8_pay_30 rfl (lv_at hl 2 rfl) ?_
        refine lv_icmp_eq (tgt := 45) hx hb dX8_pay_31 (by decide) (fun c31 => ?_) (fun c31 => ?_)
        · skip
          refine lv_ldc hx hb hown k84 dX8_pay_45 ?_
          exact hret (-100001) (s, was, st, fu_) H locs _ ls (show (-100001) = (pyR s f t am) ∧ (MACT s was st (pyO s f t am) (pyS s f t am) s was st) from (⟨by simp [pyR, pyP, c6, c15, c26, c31], MACT.no (by simp [pyO, pyP, c6, c15, c26, c31])⟩)) rfl (hP.sub [0, 1, 2, 3] rfl) (hD.sub [0, 1, 2, 3] (by decide) rfl) hS dX8_pay_47
        · skip
          obtain ⟨fk_, hfk_1, hfk_2, rfl⟩ := inR_t (by omega) (by omega) c6
          obtain ⟨tk_, htk_1, htk_2, rfl⟩ := inR_t (by omega) (by omega) c15
          obtain ⟨ak_, hak_1, hak_2, rfl⟩ := inR_t (by omega) (by omega) c26
          refine lv_aload_n hx hb dX8_pay_34 rfl (lv_at hl 0 rfl) ?_
          refine lv_iconst (v := (nI 2)) hx hb dX8_pay_35 (by decide) ?_
          refine lv_iload_n hx hb dX8_pay_36 rfl (lv_at hl 1 rfl) ?_
          refine lv_iload_n hx hb dX8_pay_37 rfl (lv_at hl 2 rfl) ?_
          refine lv_iload_n hx hb dX8_pay_38 rfl (lv_at hl 3 rfl) ?_
          refine call_w (wr := []) (va_runV (As := [.int (nI 2), .int (nI fk_), .int (nI tk_), .int (nI ak_)]) (rest := []) ⟨hx, hb, hml, hown, hts⟩ (kX8_writes ln dg tq (m0 := m0) (ms := ms) (mw := mw) (mt := mt) (su := su) (pt := pt) (td := td) (wy := wy) (xt := xt) (xa := xa) (st := st) (hst := (by omega)) (s := s) (was := was) (hW := hW) (fu_ := fu_) (k := 2) (f := fk_) (t := tk_) (a := ak_) (hk := (by omega)) (hf := (by omega)) (ht := (by omega)) (ha := (by omega)) H.size) (cwV 4 hts gX8_pay_X8_writes rfl rfl rfl hdX8_writes ⟨Nat.le_of_ble_eq_true rfl, Nat.le_of_ble_eq_true rfl⟩) (preVB hK hN hP hD [0, 1, 2, 3] rfl rfl rfl 0 rfl rfl [.int (nI 2), .int (nI fk_), .int (nI tk_), .int (nI ak_)]) rfl rfl hl.1 rfl (lv_room (Nat.le_of_ble_eq_true rfl)) dX8_pay_39 ⟨Nat.le_refl _, Nat.le_refl _⟩) hP hD hS hA [0, 1, 2, 3] [] rfl rfl (by decide) (by decide) (fun r39 u39 H locs hw39 hP hD hS => ?_)
          obtain ⟨s239, w239, st239, f239⟩ := u39
          have hP : va_P dg vwCl [(m0, .inr (8, [.ref ms, .ref mw, .int (nI st239), .ref mt, .int xt, .int xa, .ref su, .ref pt, .ref td, .ref wy])), (ms, .inl (tq.1, 1445, .inl s239)), (mw, .inl (tq.1, 7225, .inl w239)), (su, .inl (tq.1, 6, .inl f239))] H := hP
          have hD : va_D AA [(m0, .inr (8, [.ref ms, .ref mw, .int (nI st239), .ref mt, .int xt, .int xa, .ref su, .ref pt, .ref td, .ref wy])), (ms, .inl (tq.1, 1445, .inl s239)), (mw, .inl (tq.1, 7225, .inl w239)), (su, .inl (tq.1, 6, .inl f239))] := hD
          obtain ⟨hr39, hw39⟩ := hw39
          subst hr39
          refine lv_goto (tgt := 47) hx hb dX8_pay_42 (by decide) ?_
          exact hret (wrR s 2 fk_ ak_) (s239, w239, st239, f239) H locs _ ls (show (wrR s 2 fk_ ak_) = (pyR s (nI fk_) (nI tk_) (nI ak_)) ∧ (MACT s was st (pyO s (nI fk_) (nI tk_) (nI ak_)) (pyS s (nI fk_) (nI tk_) (nI ak_)) s239 w239 st239) from (by unfold pyR pyO pyS pyP; rw [c6, c15, c26, decide_eq_false c31, cl_n (show ak_ < 2147483648 by omega), cl_n (show tk_ < 2147483648 by omega), cl_n (show fk_ < 2147483648 by omega)]; exact ⟨rfl, hw39⟩)) rfl (hP.sub [0, 1, 2, 3] rfl) (hD.sub [0, 1, 2, 3] (by decide) rfl) hS dX8_pay_47
theorem hdX8_fee : yX8_fee.cls = RX8 ∧ yX8_fee.cls ≠ "java/lang/invoke/MethodHandle" ∧ yX8_fee.cls ≠ "java/lang/invoke/VarHandle" ∧ (parseMethodDescriptor yX8_fee.desc).map (fun d => d.parameters.length) = some 2 := by decide +kernel
set_option maxHeartbeats 4000000 in
set_option maxRecDepth 100000 in
theorem kX8_fee (ln : Launch) (dg : va_G) (tq : ClassId × ClassId) (m0 ms mw mt su pt td wy : Nat) (xt xa : Int32) (st : Nat) (hst : st ≤ 5) (s was : Row) (hW : WF s) (fu_ : Row) (f am : Int32) : MW ln yX8_fee wsX8_fee (rmm 5 111) dg tq [.ref m0, .int f, .int am] [(m0, .inr (8, [.ref ms, .ref mw, .int (nI st), .ref mt, .int xt, .int xa, .ref su, .ref pt, .ref td, .ref wy])), (ms, .inl (tq.1, 1445, .inl s)), (mw, .inl (tq.1, 7225, .inl was)), (su, .inl (tq.1, 6, .inl fu_))] (fun (r : Int32) (u : Row × Row × Nat × Row) => r = (feR s f am) ∧ (MACT s was st (feO s f am) (feS s f am) u.1 u.2.1 u.2.2.1)) (fun u => [(m0, .inr (8, [.ref ms, .ref mw, .int (nI u.2.2.1), .ref mt, .int xt, .int xa, .ref su, .ref pt, .ref td, .ref wy])), (ms, .inl (tq.1, 1445, .inl u.1)), (mw, .inl (tq.1, 7225, .inl u.2.1)), (su, .inl (tq.1, 6, .inl u.2.2.2))]) := by
  refine MW.enter cX8_fee 3 .int (by decide) rfl rfl (Nat.le_of_ble_eq_true rfl) ?_
  intro pP eE sS mM aA bB mT cC QQ AA hA hAT hret H locs hP hD hS ls hl
  obtain ⟨hx, hb, hml, hown, hts, hK, hN⟩ := hAT
  have hown : sS.vm.findClass RX8 = some mM.cls := hown
  have hl : lv_has ls 3 [(0, .ref m0), (1, .int f), (2, .int am)] := hl
  have k84 := hts (.constant RX8 84 (-100001)) (List.mem_of_getElem? (i := 1) rfl)
  have hn60 := hW.n60
  have hb10 := hW.b10
  have hs8 := hW.s8
  have hhn := hW.hn
  refine lv_iload_n hx hb dX8_fee_0 rfl (lv_at hl 1 rfl) ?_
  refine lv_iconst (v := (nI 1)) hx hb dX8_fee_1 (by decide) ?_
  refine lv_iconst (v := (nI 5)) hx hb dX8_fee_2 (by decide) ?_
  refine call_x (va_runS (As := [.int f, .int (nI 1), .int (nI 5)]) (rest := []) ⟨hx, hb, hml, hown, hts⟩ (kX8_in ln dg tq (v := f) (lo := (nI 1)) (hi := (nI 5)) H.size) (va_cwS 3 hts gX8_fee_X8_in rfl rfl rfl hdX8_in.2 ⟨Nat.le_of_ble_eq_true rfl, Nat.le_of_ble_eq_true rfl⟩) (preS0 hK hN [.int f, .int (nI 1), .int (nI 5)]) rfl rfl hl.1 rfl (lv_room (Nat.le_of_ble_eq_true rfl)) dX8_fee_3 ⟨Nat.le_refl _, Nat.le_refl _⟩) hP hS hA (fun H locs hP hS => ?_)
  refine r_if_eq_b (tgt := 31) hx hb dX8_fee_6 (by decide) (fun c6 => ?_) (fun c6 => ?_)
  · skip
    refine lv_ldc hx hb hown k84 dX8_fee_31 ?_
    exact hret (-100001) (s, was, st, fu_) H locs _ ls (show (-100001) = (feR s f am) ∧ (MACT s was st (feO s f am) (feS s f am) s was st) from (⟨by simp [feR, feP, c6], MACT.no (by simp [feO, feP, c6])⟩)) rfl (hP.sub [0, 1, 2, 3] rfl) (hD.sub [0, 1, 2, 3] (by decide) rfl) hS dX8_fee_33
  · skip
    refine lv_iload_n hx hb dX8_fee_9 rfl (lv_at hl 2 rfl) ?_
    refine lv_iconst (v := (nI 1)) hx hb dX8_fee_10 (by decide) ?_
    refine lv_sipush (v := (nI 999)) hx hb dX8_fee_11 (by decide) ?_
    refine call_x (va_runS (As := [.int am, .int (nI 1), .int (nI 999)]) (rest := []) ⟨hx, hb, hml, hown, hts⟩ (kX8_in ln dg tq (v := am) (lo := (nI 1)) (hi := (nI 999)) H.size) (va_cwS 3 hts gX8_fee_X8_in rfl rfl rfl hdX8_in.2 ⟨Nat.le_of_ble_eq_true rfl, Nat.le_of_ble_eq_true rfl⟩) (preS0 hK hN [.int am, .int (nI 1), .int (nI 999)]) rfl rfl hl.1 rfl (lv_room (Nat.le_of_ble_eq_true rfl)) dX8_fee_14 ⟨Nat.le_refl _, Nat.le_refl _⟩) hP hS hA (fun H locs hP hS => ?_)
    refine r_if_eq_b (tgt := 31) hx hb dX8_fee_17 (by decide) (fun c17 => ?_) (fun c17 => ?_)
    · skip
      refine lv_ldc hx hb hown k84 dX8_fee_31 ?_
      exact hret (-100001) (s, was, st, fu_) H locs _ ls (show (-100001) = (feR s f am) ∧ (MACT s was st (feO s f am) (feS s f am) s was st) from (⟨by simp [feR, feP, c6, c17], MACT.no (by simp [feO, feP, c6, c17])⟩)) rfl (hP.sub [0, 1, 2, 3] rfl) (hD.sub [0, 1, 2, 3] (by decide) rfl) hS dX8_fee_33
    · skip
      obtain ⟨fk_, hfk_1, hfk_2, rfl⟩ := inR_t (by omega) (by omega) c6
      obtain ⟨ak_, hak_1, hak_2, rfl⟩ := inR_t (by omega) (by omega) c17
      refine lv_aload_n hx hb dX8_fee_20 rfl (lv_at hl 0 rfl) ?_
      refine lv_iconst (v := (nI 3)) hx hb dX8_fee_21 (by decide) ?_
      refine lv_iload_n hx hb dX8_fee_22 rfl (lv_at hl 1 rfl) ?_
      refine lv_iconst (v := (nI 0)) hx hb dX8_fee_23 (by decide) ?_
      refine lv_iload_n hx hb dX8_fee_24 rfl (lv_at hl 2 rfl) ?_
      refine call_w (wr := []) (va_runV (As := [.int (nI 3), .int (nI fk_), .int (nI 0), .int (nI ak_)]) (rest := []) ⟨hx, hb, hml, hown, hts⟩ (kX8_writes ln dg tq (m0 := m0) (ms := ms) (mw := mw) (mt := mt) (su := su) (pt := pt) (td := td) (wy := wy) (xt := xt) (xa := xa) (st := st) (hst := (by omega)) (s := s) (was := was) (hW := hW) (fu_ := fu_) (k := 3) (f := fk_) (t := 0) (a := ak_) (hk := (by omega)) (hf := (by omega)) (ht := (by omega)) (ha := (by omega)) H.size) (cwV 4 hts gX8_fee_X8_writes rfl rfl rfl hdX8_writes ⟨Nat.le_of_ble_eq_true rfl, Nat.le_of_ble_eq_true rfl⟩) (preVB hK hN hP hD [0, 1, 2, 3] rfl rfl rfl 0 rfl rfl [.int (nI 3), .int (nI fk_), .int (nI 0), .int (nI ak_)]) rfl rfl hl.1 rfl (lv_room (Nat.le_of_ble_eq_true rfl)) dX8_fee_25 ⟨Nat.le_refl _, Nat.le_refl _⟩) hP hD hS hA [0, 1, 2, 3] [] rfl rfl (by decide) (by decide) (fun r25 u25 H locs hw25 hP hD hS => ?_)
      obtain ⟨s225, w225, st225, f225⟩ := u25
      have hP : va_P dg vwCl [(m0, .inr (8, [.ref ms, .ref mw, .int (nI st225), .ref mt, .int xt, .int xa, .ref su, .ref pt, .ref td, .ref wy])), (ms, .inl (tq.1, 1445, .inl s225)), (mw, .inl (tq.1, 7225, .inl w225)), (su, .inl (tq.1, 6, .inl f225))] H := hP
      have hD : va_D AA [(m0, .inr (8, [.ref ms, .ref mw, .int (nI st225), .ref mt, .int xt, .int xa, .ref su, .ref pt, .ref td, .ref wy])), (ms, .inl (tq.1, 1445, .inl s225)), (mw, .inl (tq.1, 7225, .inl w225)), (su, .inl (tq.1, 6, .inl f225))] := hD
      obtain ⟨hr25, hw25⟩ := hw25
      subst hr25
      refine lv_goto (tgt := 33) hx hb dX8_fee_28 (by decide) ?_
      exact hret (wrR s 3 fk_ ak_) (s225, w225, st225, f225) H locs _ ls (show (wrR s 3 fk_ ak_) = (feR s (nI fk_) (nI ak_)) ∧ (MACT s was st (feO s (nI fk_) (nI ak_)) (feS s (nI fk_) (nI ak_)) s225 w225 st225) from (by unfold feR feO feS feP; rw [c6, c17, cl_n (show ak_ < 2147483648 by omega), cl_n (show fk_ < 2147483648 by omega)]; exact ⟨rfl, hw25⟩)) rfl (hP.sub [0, 1, 2, 3] rfl) (hD.sub [0, 1, 2, 3] (by decide) rfl) hS dX8_fee_33
theorem hdX8_note : yX8_note.cls = RX8 ∧ yX8_note.cls ≠ "java/lang/invoke/MethodHandle" ∧ yX8_note.cls ≠ "java/lang/invoke/VarHandle" ∧ (parseMethodDescriptor yX8_note.desc).map (fun d => d.parameters.length) = some 1 := by decide +kernel
set_option maxHeartbeats 4000000 in
set_option maxRecDepth 100000 in
theorem kX8_note (ln : Launch) (dg : va_G) (tq : ClassId × ClassId) (m0 ms mw mt su pt td wy : Nat) (xt xa : Int32) (st : Nat) (hst : st ≤ 5) (s was : Row) (hW : WF s) (fu_ : Row) (am : Int32) : MW ln yX8_note wsX8_note (rmm 5 111) dg tq [.ref m0, .int am] [(m0, .inr (8, [.ref ms, .ref mw, .int (nI st), .ref mt, .int xt, .int xa, .ref su, .ref pt, .ref td, .ref wy])), (ms, .inl (tq.1, 1445, .inl s)), (mw, .inl (tq.1, 7225, .inl was)), (su, .inl (tq.1, 6, .inl fu_))] (fun (r : Int32) (u : Row × Row × Nat × Row) => r = (ntR s am) ∧ (MACT s was st (ntO s am) (ntS s am) u.1 u.2.1 u.2.2.1)) (fun u => [(m0, .inr (8, [.ref ms, .ref mw, .int (nI u.2.2.1), .ref mt, .int xt, .int xa, .ref su, .ref pt, .ref td, .ref wy])), (ms, .inl (tq.1, 1445, .inl u.1)), (mw, .inl (tq.1, 7225, .inl u.2.1)), (su, .inl (tq.1, 6, .inl u.2.2.2))]) := by
  refine MW.enter cX8_note 2 .int (by decide) rfl rfl (Nat.le_of_ble_eq_true rfl) ?_
  intro pP eE sS mM aA bB mT cC QQ AA hA hAT hret H locs hP hD hS ls hl
  obtain ⟨hx, hb, hml, hown, hts, hK, hN⟩ := hAT
  have hown : sS.vm.findClass RX8 = some mM.cls := hown
  have hl : lv_has ls 2 [(0, .ref m0), (1, .int am)] := hl
  have k84 := hts (.constant RX8 84 (-100001)) (List.mem_of_getElem? (i := 1) rfl)
  have hn60 := hW.n60
  have hb10 := hW.b10
  have hs8 := hW.s8
  have hhn := hW.hn
  refine lv_iload_n hx hb dX8_note_0 rfl (lv_at hl 1 rfl) ?_
  refine lv_iconst (v := (nI 0)) hx hb dX8_note_1 (by decide) ?_
  refine lv_sipush (v := (nI 999)) hx hb dX8_note_2 (by decide) ?_
  refine call_x (va_runS (As := [.int am, .int (nI 0), .int (nI 999)]) (rest := []) ⟨hx, hb, hml, hown, hts⟩ (kX8_in ln dg tq (v := am) (lo := (nI 0)) (hi := (nI 999)) H.size) (va_cwS 3 hts gX8_note_X8_in rfl rfl rfl hdX8_in.2 ⟨Nat.le_of_ble_eq_true rfl, Nat.le_of_ble_eq_true rfl⟩) (preS0 hK hN [.int am, .int (nI 0), .int (nI 999)]) rfl rfl hl.1 rfl (lv_room (Nat.le_of_ble_eq_true rfl)) dX8_note_5 ⟨Nat.le_refl _, Nat.le_refl _⟩) hP hS hA (fun H locs hP hS => ?_)
  refine r_if_eq_b (tgt := 22) hx hb dX8_note_8 (by decide) (fun c8 => ?_) (fun c8 => ?_)
  · skip
    refine lv_ldc hx hb hown k84 dX8_note_22 ?_
    exact hret (-100001) (s, was, st, fu_) H locs _ ls (show (-100001) = (ntR s am) ∧ (MACT s was st (ntO s am) (ntS s am) s was st) from (⟨by simp [ntR, c8], MACT.no (by simp [ntO, c8])⟩)) rfl (hP.sub [0, 1, 2, 3] rfl) (hD.sub [0, 1, 2, 3] (by decide) rfl) hS dX8_note_24
  · skip
    obtain ⟨ak_, hak_1, hak_2, rfl⟩ := inR_t (by omega) (by omega) c8
    refine lv_aload_n hx hb dX8_note_11 rfl (lv_at hl 0 rfl) ?_
    refine lv_iconst (v := (nI 4)) hx hb dX8_note_12 (by decide) ?_
    refine lv_iconst (v := (nI 0)) hx hb dX8_note_13 (by decide) ?_
    refine lv_iconst (v := (nI 0)) hx hb dX8_note_14 (by decide) ?_
    refine lv_iload_n hx hb dX8_note_15 rfl (lv_at hl 1 rfl) ?_
    refine call_w (wr := []) (va_runV (As := [.int (nI 4), .int (nI 0), .int (nI 0), .int (nI ak_)]) (rest := []) ⟨hx, hb, hml, hown, hts⟩ (kX8_writes ln dg tq (m0 := m0) (ms := ms) (mw := mw) (mt := mt) (su := su) (pt := pt) (td := td) (wy := wy) (xt := xt) (xa := xa) (st := st) (hst := (by omega)) (s := s) (was := was) (hW := hW) (fu_ := fu_) (k := 4) (f := 0) (t := 0) (a := ak_) (hk := (by omega)) (hf := (by omega)) (ht := (by omega)) (ha := (by omega)) H.size) (cwV 4 hts gX8_note_X8_writes rfl rfl rfl hdX8_writes ⟨Nat.le_of_ble_eq_true rfl, Nat.le_of_ble_eq_true rfl⟩) (preVB hK hN hP hD [0, 1, 2, 3] rfl rfl rfl 0 rfl rfl [.int (nI 4), .int (nI 0), .int (nI 0), .int (nI ak_)]) rfl rfl hl.1 rfl (lv_room (Nat.le_of_ble_eq_true rfl)) dX8_note_16 ⟨Nat.le_refl _, Nat.le_refl _⟩) hP hD hS hA [0, 1, 2, 3] [] rfl rfl (by decide) (by decide) (fun r16 u16 H locs hw16 hP hD hS => ?_)
    obtain ⟨s216, w216, st216, f216⟩ := u16
    have hP : va_P dg vwCl [(m0, .inr (8, [.ref ms, .ref mw, .int (nI st216), .ref mt, .int xt, .int xa, .ref su, .ref pt, .ref td, .ref wy])), (ms, .inl (tq.1, 1445, .inl s216)), (mw, .inl (tq.1, 7225, .inl w216)), (su, .inl (tq.1, 6, .inl f216))] H := hP
    have hD : va_D AA [(m0, .inr (8, [.ref ms, .ref mw, .int (nI st216), .ref mt, .int xt, .int xa, .ref su, .ref pt, .ref td, .ref wy])), (ms, .inl (tq.1, 1445, .inl s216)), (mw, .inl (tq.1, 7225, .inl w216)), (su, .inl (tq.1, 6, .inl f216))] := hD
    obtain ⟨hr16, hw16⟩ := hw16
    subst hr16
    refine lv_goto (tgt := 24) hx hb dX8_note_19 (by decide) ?_
    exact hret (wrR s 4 0 ak_) (s216, w216, st216, f216) H locs _ ls (show (wrR s 4 0 ak_) = (ntR s (nI ak_)) ∧ (MACT s was st (ntO s (nI ak_)) (ntS s (nI ak_)) s216 w216 st216) from (by unfold ntR ntO ntS; rw [c8, cl_n (show ak_ < 2147483648 by omega)]; exact ⟨rfl, hw16⟩)) rfl (hP.sub [0, 1, 2, 3] rfl) (hD.sub [0, 1, 2, 3] (by decide) rfl) hS dX8_note_24
