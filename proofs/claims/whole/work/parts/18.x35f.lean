theorem hdX5_addAll : yX5_addAll.cls = RX5 ∧ yX5_addAll.cls ≠ "java/lang/invoke/MethodHandle" ∧ yX5_addAll.cls ≠ "java/lang/invoke/VarHandle" ∧ (parseMethodDescriptor yX5_addAll.desc).map (fun d => d.parameters.length) = some 2 := by decide +kernel
set_option maxHeartbeats 4000000 in
set_option maxRecDepth 100000 in
theorem kX5_addAll (ln : Launch) (dg : va_G) (tq : ClassId × ClassId) (u0 u1 : Nat) (f : Row) (h0 h1 : Nat) (c : Row) (s : Row) (hR : XR s c) (hW : WF s) (v : Nat → Int) (hV : SV f v) (len : Nat) (w0 w1 : Nat) (pc : Row) (E : Nat → Nat) (hE : ∀ k, k < len → pc k = nI (E k) ∧ E k < nE s) (hlen : len ≤ 60) : MV ln yX5_addAll wsX5_addAll (rmm 2 46) dg tq [.ref u0, .ref h0, .ref w0] [(u0, .inr (5, [.ref u1])), (u1, .inl (tq.1, 6, .inl f)), (h0, .inr (1, [.ref h1])), (h1, .inl (tq.1, 1473, .inl c)), (w0, .inr (3, [.ref w1, .int (nI len)])), (w1, .inl (tq.1, 60, .inl pc))] (fun (u : Row) => SV u (allV s v E len)) (fun u => [(u0, .inr (5, [.ref u1])), (u1, .inl (tq.1, 6, .inl u)), (h0, .inr (1, [.ref h1])), (h1, .inl (tq.1, 1473, .inl c)), (w0, .inr (3, [.ref w1, .int (nI len)])), (w1, .inl (tq.1, 60, .inl pc))]) := by
  refine MV.enter cX5_addAll 4 (by decide) rfl rfl (Nat.le_of_ble_eq_true rfl) ?_
  intro pP eE sS mM aA bB mT cC QQ AA hA hAT hret H locs hP hD hS ls hl
  obtain ⟨hx, hb, hml, hown, hts, hK, hN⟩ := hAT
  have hown : sS.vm.findClass RX5 = some mM.cls := hown
  have hl : lv_has ls 4 [(0, .ref u0), (1, .ref h0), (2, .ref w0)] := hl
  have hn60 := hW.n60
  have hb10 := hW.b10
  have hs8 := hW.s8
  refine lv_iconst (v := (nI 0)) hx hb dX5_addAll_0 (by decide) ?_
  refine lv_istore_n (lv' := [(3, .int (nI 0)), (0, .ref u0), (1, .ref h0), (2, .ref w0)]) hx hb dX5_addAll_1 rfl hl (by decide) rfl (fun ls hl => ?_)
  have loop2 : ∀ (fu : Nat) (i_ : Nat) (f_ : Row) (H : Heap) (locs : List Loc) (ls : Array Slot), (i_ ≤ len ∧ SV f_ (allV s v E i_)) → len - i_ < fu → va_P dg vwCl [(u0, .inr (5, [.ref u1])), (u1, .inl (tq.1, 6, .inl f_)), (h0, .inr (1, [.ref h1])), (h1, .inl (tq.1, 1473, .inl c)), (w0, .inr (3, [.ref w1, .int (nI len)])), (w1, .inl (tq.1, 60, .inl pc))] H → va_D AA [(u0, .inr (5, [.ref u1])), (u1, .inl (tq.1, 6, .inl f_)), (h0, .inr (1, [.ref h1])), (h1, .inl (tq.1, 1473, .inl c)), (w0, .inr (3, [.ref w1, .int (nI len)])), (w1, .inl (tq.1, 60, .inl pc))] → va_S AA sS.heap H locs → lv_has ls 4 [(0, .ref u0), (1, .ref h0), (2, .ref w0), (3, .int (nI i_))] → W pP ln eE (rmm 2 46) sS mM aA bB mT cC H locs 0 0 QQ (F0 mM 2 ls []) := by
    intro fu
    induction fu with
    | zero => intro i_ f_ H locs ls _ hm; exact absurd hm (Nat.not_lt_zero _)
    | succ fu ih2 =>
      intro i_ f_ H locs ls hinv hm hP hD hS hl
      obtain ⟨hi1, hV2⟩ := hinv
      refine lv_iload_n hx hb dX5_addAll_2 rfl (lv_at hl 3 rfl) ?_
      refine lv_aload_n hx hb dX5_addAll_3 rfl (lv_at hl 2 rfl) ?_
      refine call_x (va_runV (As := []) (rest := [.int (nI i_)]) ⟨hx, hb, hml, hown, hts⟩ (kX3_length ln dg tq (w0 := w0) (w1 := w1) (len := len) (pc := pc) H.size) (cwV 0 hts gX5_addAll_X3_length rfl rfl rfl hdX3_length ⟨Nat.le_of_ble_eq_true rfl, Nat.le_of_ble_eq_true rfl⟩) (preVR hK hN hP [4, 5] rfl 4 rfl rfl []) rfl rfl hl.1 rfl (lv_room (Nat.le_of_ble_eq_true rfl)) dX5_addAll_4 ⟨Nat.le_refl _, Nat.le_refl _⟩) hP hS hA (fun H locs hP hS => ?_)
      refine r_icmp_ge (tgt := 26) hx hb (nI_tI (by omega)) (nI_tI (by omega)) dX5_addAll_7 (by decide) (fun c7 => ?_) (fun c7 => ?_)
      · skip
        exact hret (f_) H locs _ ls (by rw [show len = i_ by omega]; exact hV2) (hP.sub [0, 1, 2, 3, 4, 5] rfl) (hD.sub [0, 1, 2, 3, 4, 5] (by decide) rfl) hS dX5_addAll_26
      · skip
        obtain ⟨hE1, hE2⟩ := hE i_ (by omega)
        refine lv_aload_n hx hb dX5_addAll_10 rfl (lv_at hl 0 rfl) ?_
        refine lv_aload_n hx hb dX5_addAll_11 rfl (lv_at hl 1 rfl) ?_
        refine lv_aload_n hx hb dX5_addAll_12 rfl (lv_at hl 2 rfl) ?_
        refine lv_iload_n hx hb dX5_addAll_13 rfl (lv_at hl 3 rfl) ?_
        refine call_x (va_runV (As := [.int (nI i_)]) (rest := [.ref h0, .ref u0]) ⟨hx, hb, hml, hown, hts⟩ (kX3_at ln dg tq (w0 := w0) (w1 := w1) (len := len) (pc := pc) (k := i_) (hk := (by omega)) (hlen := (by omega)) H.size) (cwV 1 hts gX5_addAll_X3_at rfl rfl rfl hdX3_at ⟨Nat.le_of_ble_eq_true rfl, Nat.le_of_ble_eq_true rfl⟩) (preVR hK hN hP [4, 5] rfl 4 rfl rfl [.int (nI i_)]) rfl rfl hl.1 rfl (lv_room (Nat.le_of_ble_eq_true rfl)) dX5_addAll_14 ⟨Nat.le_refl _, Nat.le_refl _⟩) hP hS hA (fun H locs hP hS => ?_)
        refine r_top (show (pc i_) = (nI (E i_)) from hE1) ?_
        refine call_v (wr := [(w0, .inr (3, [.ref w1, .int (nI len)])), (w1, .inl (tq.1, 60, .inl pc))]) (va_runV (As := [.ref h0, .int (nI (E i_))]) (rest := []) ⟨hx, hb, hml, hown, hts⟩ (kX5_add ln dg tq (u0 := u0) (u1 := u1) (f := f_) (h0 := h0) (h1 := h1) (c := c) (s := s) (hR := hR) (hW := hW) (v := allV s v E i_) (hV := hV2) (e := E i_) (he := (by omega)) H.size) (cwV 2 hts gX5_addAll_X5_add rfl rfl rfl hdX5_add ⟨Nat.le_of_ble_eq_true rfl, Nat.le_of_ble_eq_true rfl⟩) (preVB hK hN hP hD [0, 1, 2, 3] rfl rfl rfl 0 rfl rfl [.ref h0, .int (nI (E i_))]) rfl rfl hl.1 rfl (lv_room (Nat.le_of_ble_eq_true rfl)) dX5_addAll_17 ⟨Nat.le_refl _, Nat.le_refl _⟩) hP hD hS hA [0, 1, 2, 3] [4, 5] rfl rfl (by decide) (by decide) (fun u17 H locs hw17 hP hD hS => ?_)
        obtain ⟨g17, rfl⟩ : ∃ z, z = u17 := ⟨_, rfl⟩
        have hP : va_P dg vwCl [(w0, .inr (3, [.ref w1, .int (nI len)])), (w1, .inl (tq.1, 60, .inl pc)), (u0, .inr (5, [.ref u1])), (u1, .inl (tq.1, 6, .inl g17)), (h0, .inr (1, [.ref h1])), (h1, .inl (tq.1, 1473, .inl c))] H := hP
        have hD : va_D AA [(w0, .inr (3, [.ref w1, .int (nI len)])), (w1, .inl (tq.1, 60, .inl pc)), (u0, .inr (5, [.ref u1])), (u1, .inl (tq.1, 6, .inl g17)), (h0, .inr (1, [.ref h1])), (h1, .inl (tq.1, 1473, .inl c))] := hD
        refine lv_iinc (v := (nI (i_ + 1))) (lv' := [(3, .int (nI (i_ + 1))), (0, .ref u0), (1, .ref h0), (2, .ref w0)]) hx hb dX5_addAll_20 hl (k := 3) rfl (nI_add _ _) (by decide) rfl (fun ls hl => ?_)
        refine lv_goto (tgt := 2) hx hb dX5_addAll_23 (by decide) ?_
        exact ih2 (i_ + 1) g17 H locs ls (⟨by omega, hw17⟩) (by omega) (hP.sub [2, 3, 4, 5, 0, 1] rfl) (hD.sub [2, 3, 4, 5, 0, 1] (by decide) rfl) hS (lv_sub hl [1, 2, 3, 0] rfl)
  exact loop2 _ 0 f H locs ls (⟨by omega, hV⟩) (Nat.lt_succ_self _) (hP.sub [0, 1, 2, 3, 4, 5] rfl) (hD.sub [0, 1, 2, 3, 4, 5] (by decide) rfl) hS (lv_sub hl [1, 2, 3, 0] rfl)
theorem hdX5_addAfforded : yX5_addAfforded.cls = RX5 ∧ yX5_addAfforded.cls ≠ "java/lang/invoke/MethodHandle" ∧ yX5_addAfforded.cls ≠ "java/lang/invoke/VarHandle" ∧ (parseMethodDescriptor yX5_addAfforded.desc).map (fun d => d.parameters.length) = some 2 := by decide +kernel
set_option maxHeartbeats 4000000 in
set_option maxRecDepth 100000 in
theorem kX5_addAfforded (ln : Launch) (dg : va_G) (tq : ClassId × ClassId) (u0 u1 : Nat) (f : Row) (h0 h1 : Nat) (c : Row) (s : Row) (hR : XR s c) (hW : WF s) (v : Nat → Int) (hV : SV f v) (N : Int) (hB : BV v N) (hn9 : N < 1000000000) (len : Nat) (w0 w1 : Nat) (pc : Row) (E : Nat → Nat) (hE : ∀ k, k < len → pc k = nI (E k) ∧ E k < nE s) (hlen : len ≤ 60) : MW ln yX5_addAfforded wsX5_addAfforded (rmm 3 69) dg tq [.ref u0, .ref h0, .ref w0] [(u0, .inr (5, [.ref u1])), (u1, .inl (tq.1, 6, .inl f)), (h0, .inr (1, [.ref h1])), (h1, .inl (tq.1, 1473, .inl c)), (w0, .inr (3, [.ref w1, .int (nI len)])), (w1, .inl (tq.1, 60, .inl pc))] (fun (r : Int32) (u : Row) => r = (nI (trN s v E len)) ∧ (SV u (trV s v E len))) (fun u => [(u0, .inr (5, [.ref u1])), (u1, .inl (tq.1, 6, .inl u)), (h0, .inr (1, [.ref h1])), (h1, .inl (tq.1, 1473, .inl c)), (w0, .inr (3, [.ref w1, .int (nI len)])), (w1, .inl (tq.1, 60, .inl pc))]) := by
  refine MW.enter cX5_addAfforded 5 .int (by decide) rfl rfl (Nat.le_of_ble_eq_true rfl) ?_
  intro pP eE sS mM aA bB mT cC QQ AA hA hAT hret H locs hP hD hS ls hl
  obtain ⟨hx, hb, hml, hown, hts, hK, hN⟩ := hAT
  have hown : sS.vm.findClass RX5 = some mM.cls := hown
  have hl : lv_has ls 5 [(0, .ref u0), (1, .ref h0), (2, .ref w0)] := hl
  have hn60 := hW.n60
  have hb10 := hW.b10
  have hs8 := hW.s8
  refine lv_iconst (v := (nI 0)) hx hb dX5_addAfforded_0 (by decide) ?_
  refine lv_istore_n (lv' := [(3, .int (nI 0)), (0, .ref u0), (1, .ref h0), (2, .ref w0)]) hx hb dX5_addAfforded_1 rfl hl (by decide) rfl (fun ls hl => ?_)
  refine lv_iconst (v := (nI 0)) hx hb dX5_addAfforded_2 (by decide) ?_
  refine lv_istore (lv' := [(4, .int (nI 0)), (3, .int (nI 0)), (0, .ref u0), (1, .ref h0), (2, .ref w0)]) hx hb dX5_addAfforded_3 hl (by decide) rfl (fun ls hl => ?_)
  have loop5 : ∀ (fu : Nat) (i_ : Nat) (k_ : Nat) (f_ : Row) (H : Heap) (locs : List Loc) (ls : Array Slot), (i_ ≤ len ∧ k_ = trN s v E i_ ∧ SV f_ (trV s v E i_)) → len - i_ < fu → va_P dg vwCl [(u0, .inr (5, [.ref u1])), (u1, .inl (tq.1, 6, .inl f_)), (h0, .inr (1, [.ref h1])), (h1, .inl (tq.1, 1473, .inl c)), (w0, .inr (3, [.ref w1, .int (nI len)])), (w1, .inl (tq.1, 60, .inl pc))] H → va_D AA [(u0, .inr (5, [.ref u1])), (u1, .inl (tq.1, 6, .inl f_)), (h0, .inr (1, [.ref h1])), (h1, .inl (tq.1, 1473, .inl c)), (w0, .inr (3, [.ref w1, .int (nI len)])), (w1, .inl (tq.1, 60, .inl pc))] → va_S AA sS.heap H locs → lv_has ls 5 [(0, .ref u0), (1, .ref h0), (2, .ref w0), (3, .int (nI k_)), (4, .int (nI i_))] → W pP ln eE (rmm 3 69) sS mM aA bB mT cC H locs 0 0 QQ (F0 mM 5 ls []) := by
    intro fu
    induction fu with
    | zero => intro i_ k_ f_ H locs ls _ hm; exact absurd hm (Nat.not_lt_zero _)
    | succ fu ih5 =>
      intro i_ k_ f_ H locs ls hinv hm hP hD hS hl
      obtain ⟨hi1, hi2, hV2⟩ := hinv
      refine lv_iload hx hb dX5_addAfforded_5 (lv_at hl 4 rfl) ?_
      refine lv_aload_n hx hb dX5_addAfforded_7 rfl (lv_at hl 2 rfl) ?_
      refine call_x (va_runV (As := []) (rest := [.int (nI i_)]) ⟨hx, hb, hml, hown, hts⟩ (kX3_length ln dg tq (w0 := w0) (w1 := w1) (len := len) (pc := pc) H.size) (cwV 0 hts gX5_addAfforded_X3_length rfl rfl rfl hdX3_length ⟨Nat.le_of_ble_eq_true rfl, Nat.le_of_ble_eq_true rfl⟩) (preVR hK hN hP [4, 5] rfl 4 rfl rfl []) rfl rfl hl.1 rfl (lv_room (Nat.le_of_ble_eq_true rfl)) dX5_addAfforded_8 ⟨Nat.le_refl _, Nat.le_refl _⟩) hP hS hA (fun H locs hP hS => ?_)
      refine r_icmp_ge (tgt := 37) hx hb (nI_tI (by omega)) (nI_tI (by omega)) dX5_addAfforded_11 (by decide) (fun c11 => ?_) (fun c11 => ?_)
      · skip
        refine lv_iload_n hx hb dX5_addAfforded_37 rfl (lv_at hl 3 rfl) ?_
        exact hret (nI k_) (f_) H locs _ ls (by rw [show len = i_ by omega]; exact ⟨by rw [hi2], hV2⟩) rfl (hP.sub [0, 1, 2, 3, 4, 5] rfl) (hD.sub [0, 1, 2, 3, 4, 5] (by decide) rfl) hS dX5_addAfforded_38
      · skip
        obtain ⟨hE1, hE2⟩ := hE i_ (by omega)
        have hB2 := trV_bd hW hB (E := E) (j := i_) (fun k hk => (hE k (by omega)).2)
        refine lv_aload_n hx hb dX5_addAfforded_14 rfl (lv_at hl 0 rfl) ?_
        refine lv_aload_n hx hb dX5_addAfforded_15 rfl (lv_at hl 1 rfl) ?_
        refine lv_aload_n hx hb dX5_addAfforded_16 rfl (lv_at hl 2 rfl) ?_
        refine lv_iload hx hb dX5_addAfforded_17 (lv_at hl 4 rfl) ?_
        refine call_x (va_runV (As := [.int (nI i_)]) (rest := [.ref h0, .ref u0]) ⟨hx, hb, hml, hown, hts⟩ (kX3_at ln dg tq (w0 := w0) (w1 := w1) (len := len) (pc := pc) (k := i_) (hk := (by omega)) (hlen := (by omega)) H.size) (cwV 1 hts gX5_addAfforded_X3_at rfl rfl rfl hdX3_at ⟨Nat.le_of_ble_eq_true rfl, Nat.le_of_ble_eq_true rfl⟩) (preVR hK hN hP [4, 5] rfl 4 rfl rfl [.int (nI i_)]) rfl rfl hl.1 rfl (lv_room (Nat.le_of_ble_eq_true rfl)) dX5_addAfforded_19 ⟨Nat.le_refl _, Nat.le_refl _⟩) hP hS hA (fun H locs hP hS => ?_)
        refine r_top (show (pc i_) = (nI (E i_)) from hE1) ?_
        refine call_w (wr := [(w0, .inr (3, [.ref w1, .int (nI len)])), (w1, .inl (tq.1, 60, .inl pc))]) (va_runV (As := [.ref h0, .int (nI (E i_))]) (rest := []) ⟨hx, hb, hml, hown, hts⟩ (kX5_addIfAfforded ln dg tq (u0 := u0) (u1 := u1) (f := f_) (h0 := h0) (h1 := h1) (c := c) (s := s) (hR := hR) (hW := hW) (v := trV s v E i_) (hV := hV2) (N := N + 999 * i_) (hB := hB2) (hn9 := (by omega)) (e := E i_) (he := (by omega)) H.size) (cwV 2 hts gX5_addAfforded_X5_addIfAfforded rfl rfl rfl hdX5_addIfAfforded ⟨Nat.le_of_ble_eq_true rfl, Nat.le_of_ble_eq_true rfl⟩) (preVB hK hN hP hD [0, 1, 2, 3] rfl rfl rfl 0 rfl rfl [.ref h0, .int (nI (E i_))]) rfl rfl hl.1 rfl (lv_room (Nat.le_of_ble_eq_true rfl)) dX5_addAfforded_22 ⟨Nat.le_refl _, Nat.le_refl _⟩) hP hD hS hA [0, 1, 2, 3] [4, 5] rfl rfl (by decide) (by decide) (fun r22 u22 H locs hw22 hP hD hS => ?_)
        obtain ⟨g22, rfl⟩ : ∃ z, z = u22 := ⟨_, rfl⟩
        have hP : va_P dg vwCl [(w0, .inr (3, [.ref w1, .int (nI len)])), (w1, .inl (tq.1, 60, .inl pc)), (u0, .inr (5, [.ref u1])), (u1, .inl (tq.1, 6, .inl g22)), (h0, .inr (1, [.ref h1])), (h1, .inl (tq.1, 1473, .inl c))] H := hP
        have hD : va_D AA [(w0, .inr (3, [.ref w1, .int (nI len)])), (w1, .inl (tq.1, 60, .inl pc)), (u0, .inr (5, [.ref u1])), (u1, .inl (tq.1, 6, .inl g22)), (h0, .inr (1, [.ref h1])), (h1, .inl (tq.1, 1473, .inl c))] := hD
        obtain ⟨hr22, hw22⟩ := hw22
        subst hr22
        refine r_if_eq_b (tgt := 31) hx hb dX5_addAfforded_25 (by decide) (fun c25 => ?_) (fun c25 => ?_)
        · skip
          refine lv_iinc (v := (nI (i_ + 1))) (lv' := [(4, .int (nI (i_ + 1))), (0, .ref u0), (1, .ref h0), (2, .ref w0), (3, .int (nI k_))]) hx hb dX5_addAfforded_31 hl (k := 4) rfl (nI_add _ _) (by decide) rfl (fun ls hl => ?_)
          refine lv_goto (tgt := 5) hx hb dX5_addAfforded_34 (by decide) ?_
          exact ih5 (i_ + 1) k_ g22 H locs ls (⟨by omega, by rw [trN, c25]; simp [hi2], hw22⟩) (by omega) (hP.sub [2, 3, 4, 5, 0, 1] rfl) (hD.sub [2, 3, 4, 5, 0, 1] (by decide) rfl) hS (lv_sub hl [1, 2, 3, 4, 0] rfl)
        · skip
          refine lv_iinc (v := (nI (k_ + 1))) (lv' := [(3, .int (nI (k_ + 1))), (0, .ref u0), (1, .ref h0), (2, .ref w0), (4, .int (nI i_))]) hx hb dX5_addAfforded_28 hl (k := 3) rfl (nI_add _ _) (by decide) rfl (fun ls hl => ?_)
          refine lv_iinc (v := (nI (i_ + 1))) (lv' := [(4, .int (nI (i_ + 1))), (3, .int (nI (k_ + 1))), (0, .ref u0), (1, .ref h0), (2, .ref w0)]) hx hb dX5_addAfforded_31 hl (k := 4) rfl (nI_add _ _) (by decide) rfl (fun ls hl => ?_)
          refine lv_goto (tgt := 5) hx hb dX5_addAfforded_34 (by decide) ?_
          exact ih5 (i_ + 1) (k_ + 1) g22 H locs ls (⟨by omega, by rw [trN, c25]; simp [hi2], hw22⟩) (by omega) (hP.sub [2, 3, 4, 5, 0, 1] rfl) (hD.sub [2, 3, 4, 5, 0, 1] (by decide) rfl) hS (lv_sub hl [2, 3, 4, 1, 0] rfl)
  exact loop5 _ 0 0 f H locs ls (⟨by omega, rfl, hV⟩) (Nat.lt_succ_self _) (hP.sub [0, 1, 2, 3, 4, 5] rfl) (hD.sub [0, 1, 2, 3, 4, 5] (by decide) rfl) hS (lv_sub hl [2, 3, 4, 1, 0] rfl)
theorem hdX5_firstRefused : yX5_firstRefused.cls = RX5 ∧ yX5_firstRefused.cls ≠ "java/lang/invoke/MethodHandle" ∧ yX5_firstRefused.cls ≠ "java/lang/invoke/VarHandle" ∧ (parseMethodDescriptor yX5_firstRefused.desc).map (fun d => d.parameters.length) = some 2 := by decide +kernel
set_option maxHeartbeats 4000000 in
set_option maxRecDepth 100000 in
theorem kX5_firstRefused (ln : Launch) (dg : va_G) (tq : ClassId × ClassId) (u0 u1 : Nat) (f : Row) (h0 h1 : Nat) (c : Row) (s : Row) (hR : XR s c) (hW : WF s) (v : Nat → Int) (hV : SV f v) (N : Int) (hB : BV v N) (hn9 : N < 1000000000) (len : Nat) (w0 w1 : Nat) (pc : Row) (E : Nat → Nat) (hE : ∀ k, k < len → pc k = nI (E k) ∧ E k < nE s) (hlen : len ≤ 60) : MW ln yX5_firstRefused wsX5_firstRefused (rmm 3 69) dg tq [.ref u0, .ref h0, .ref w0] [(u0, .inr (5, [.ref u1])), (u1, .inl (tq.1, 6, .inl f)), (h0, .inr (1, [.ref h1])), (h1, .inl (tq.1, 1473, .inl c)), (w0, .inr (3, [.ref w1, .int (nI len)])), (w1, .inl (tq.1, 60, .inl pc))] (fun (r : Int32) (u : Row) => r = (fstR s v E 0 len)) (fun u => [(u0, .inr (5, [.ref u1])), (u1, .inl (tq.1, 6, .inl u)), (h0, .inr (1, [.ref h1])), (h1, .inl (tq.1, 1473, .inl c)), (w0, .inr (3, [.ref w1, .int (nI len)])), (w1, .inl (tq.1, 60, .inl pc))]) := by
  refine MW.enter cX5_firstRefused 4 .int (by decide) rfl rfl (Nat.le_of_ble_eq_true rfl) ?_
  intro pP eE sS mM aA bB mT cC QQ AA hA hAT hret H locs hP hD hS ls hl
  obtain ⟨hx, hb, hml, hown, hts, hK, hN⟩ := hAT
  have hown : sS.vm.findClass RX5 = some mM.cls := hown
  have hl : lv_has ls 4 [(0, .ref u0), (1, .ref h0), (2, .ref w0)] := hl
  have k72 := hts (.constant RX5 72 (-100009)) (List.mem_of_getElem? (i := 1) rfl)
  have hn60 := hW.n60
  have hb10 := hW.b10
  have hs8 := hW.s8
  refine lv_iconst (v := (nI 0)) hx hb dX5_firstRefused_0 (by decide) ?_
  refine lv_istore_n (lv' := [(3, .int (nI 0)), (0, .ref u0), (1, .ref h0), (2, .ref w0)]) hx hb dX5_firstRefused_1 rfl hl (by decide) rfl (fun ls hl => ?_)
  have loop2 : ∀ (fu : Nat) (i_ : Nat) (f_ : Row) (H : Heap) (locs : List Loc) (ls : Array Slot), (i_ ≤ len ∧ fstR s v E 0 len = fstR s v E i_ (len - i_) ∧ SV f_ (trV s v E i_)) → len - i_ < fu → va_P dg vwCl [(u0, .inr (5, [.ref u1])), (u1, .inl (tq.1, 6, .inl f_)), (h0, .inr (1, [.ref h1])), (h1, .inl (tq.1, 1473, .inl c)), (w0, .inr (3, [.ref w1, .int (nI len)])), (w1, .inl (tq.1, 60, .inl pc))] H → va_D AA [(u0, .inr (5, [.ref u1])), (u1, .inl (tq.1, 6, .inl f_)), (h0, .inr (1, [.ref h1])), (h1, .inl (tq.1, 1473, .inl c)), (w0, .inr (3, [.ref w1, .int (nI len)])), (w1, .inl (tq.1, 60, .inl pc))] → va_S AA sS.heap H locs → lv_has ls 4 [(0, .ref u0), (1, .ref h0), (2, .ref w0), (3, .int (nI i_))] → W pP ln eE (rmm 3 69) sS mM aA bB mT cC H locs 0 0 QQ (F0 mM 2 ls []) := by
    intro fu
    induction fu with
    | zero => intro i_ f_ H locs ls _ hm; exact absurd hm (Nat.not_lt_zero _)
    | succ fu ih2 =>
      intro i_ f_ H locs ls hinv hm hP hD hS hl
      obtain ⟨hi1, hi2, hV2⟩ := hinv
      refine lv_iload_n hx hb dX5_firstRefused_2 rfl (lv_at hl 3 rfl) ?_
      refine lv_aload_n hx hb dX5_firstRefused_3 rfl (lv_at hl 2 rfl) ?_
      refine call_x (va_runV (As := []) (rest := [.int (nI i_)]) ⟨hx, hb, hml, hown, hts⟩ (kX3_length ln dg tq (w0 := w0) (w1 := w1) (len := len) (pc := pc) H.size) (cwV 0 hts gX5_firstRefused_X3_length rfl rfl rfl hdX3_length ⟨Nat.le_of_ble_eq_true rfl, Nat.le_of_ble_eq_true rfl⟩) (preVR hK hN hP [4, 5] rfl 4 rfl rfl []) rfl rfl hl.1 rfl (lv_room (Nat.le_of_ble_eq_true rfl)) dX5_firstRefused_4 ⟨Nat.le_refl _, Nat.le_refl _⟩) hP hS hA (fun H locs hP hS => ?_)
      refine r_icmp_ge (tgt := 35) hx hb (nI_tI (by omega)) (nI_tI (by omega)) dX5_firstRefused_7 (by decide) (fun c7 => ?_) (fun c7 => ?_)
      · skip
        refine lv_ldc hx hb hown k72 dX5_firstRefused_35 ?_
        exact hret (-100009) (f_) H locs _ ls (by rw [hi2, show len - i_ = 0 by omega]; rfl) rfl (hP.sub [0, 1, 2, 3, 4, 5] rfl) (hD.sub [0, 1, 2, 3, 4, 5] (by decide) rfl) hS dX5_firstRefused_37
      · skip
        obtain ⟨hE1, hE2⟩ := hE i_ (by omega)
        have hB2 := trV_bd hW hB (E := E) (j := i_) (fun k hk => (hE k (by omega)).2)
        refine lv_aload_n hx hb dX5_firstRefused_10 rfl (lv_at hl 0 rfl) ?_
        refine lv_aload_n hx hb dX5_firstRefused_11 rfl (lv_at hl 1 rfl) ?_
        refine lv_aload_n hx hb dX5_firstRefused_12 rfl (lv_at hl 2 rfl) ?_
        refine lv_iload_n hx hb dX5_firstRefused_13 rfl (lv_at hl 3 rfl) ?_
        refine call_x (va_runV (As := [.int (nI i_)]) (rest := [.ref h0, .ref u0]) ⟨hx, hb, hml, hown, hts⟩ (kX3_at ln dg tq (w0 := w0) (w1 := w1) (len := len) (pc := pc) (k := i_) (hk := (by omega)) (hlen := (by omega)) H.size) (cwV 1 hts gX5_firstRefused_X3_at rfl rfl rfl hdX3_at ⟨Nat.le_of_ble_eq_true rfl, Nat.le_of_ble_eq_true rfl⟩) (preVR hK hN hP [4, 5] rfl 4 rfl rfl [.int (nI i_)]) rfl rfl hl.1 rfl (lv_room (Nat.le_of_ble_eq_true rfl)) dX5_firstRefused_14 ⟨Nat.le_refl _, Nat.le_refl _⟩) hP hS hA (fun H locs hP hS => ?_)
        refine r_top (show (pc i_) = (nI (E i_)) from hE1) ?_
        refine call_w (wr := [(w0, .inr (3, [.ref w1, .int (nI len)])), (w1, .inl (tq.1, 60, .inl pc))]) (va_runV (As := [.ref h0, .int (nI (E i_))]) (rest := []) ⟨hx, hb, hml, hown, hts⟩ (kX5_addIfAfforded ln dg tq (u0 := u0) (u1 := u1) (f := f_) (h0 := h0) (h1 := h1) (c := c) (s := s) (hR := hR) (hW := hW) (v := trV s v E i_) (hV := hV2) (N := N + 999 * i_) (hB := hB2) (hn9 := (by omega)) (e := E i_) (he := (by omega)) H.size) (cwV 2 hts gX5_firstRefused_X5_addIfAfforded rfl rfl rfl hdX5_addIfAfforded ⟨Nat.le_of_ble_eq_true rfl, Nat.le_of_ble_eq_true rfl⟩) (preVB hK hN hP hD [0, 1, 2, 3] rfl rfl rfl 0 rfl rfl [.ref h0, .int (nI (E i_))]) rfl rfl hl.1 rfl (lv_room (Nat.le_of_ble_eq_true rfl)) dX5_firstRefused_17 ⟨Nat.le_refl _, Nat.le_refl _⟩) hP hD hS hA [0, 1, 2, 3] [4, 5] rfl rfl (by decide) (by decide) (fun r17 u17 H locs hw17 hP hD hS => ?_)
        obtain ⟨g17, rfl⟩ : ∃ z, z = u17 := ⟨_, rfl⟩
        have hP : va_P dg vwCl [(w0, .inr (3, [.ref w1, .int (nI len)])), (w1, .inl (tq.1, 60, .inl pc)), (u0, .inr (5, [.ref u1])), (u1, .inl (tq.1, 6, .inl g17)), (h0, .inr (1, [.ref h1])), (h1, .inl (tq.1, 1473, .inl c))] H := hP
        have hD : va_D AA [(w0, .inr (3, [.ref w1, .int (nI len)])), (w1, .inl (tq.1, 60, .inl pc)), (u0, .inr (5, [.ref u1])), (u1, .inl (tq.1, 6, .inl g17)), (h0, .inr (1, [.ref h1])), (h1, .inl (tq.1, 1473, .inl c))] := hD
        obtain ⟨hr17, hw17⟩ := hw17
        subst hr17
        refine r_if_ne_b (tgt := 29) hx hb dX5_firstRefused_20 (by decide) (fun c20 => ?_) (fun c20 => ?_)
        · skip
          refine lv_iinc (v := (nI (i_ + 1))) (lv' := [(3, .int (nI (i_ + 1))), (0, .ref u0), (1, .ref h0), (2, .ref w0)]) hx hb dX5_firstRefused_29 hl (k := 3) rfl (nI_add _ _) (by decide) rfl (fun ls hl => ?_)
          refine lv_goto (tgt := 2) hx hb dX5_firstRefused_32 (by decide) ?_
          exact ih2 (i_ + 1) g17 H locs ls (⟨by omega, by rw [hi2, show len - i_ = (len - (i_ + 1)) + 1 by omega, fstR, if_pos c20], hw17⟩) (by omega) (hP.sub [2, 3, 4, 5, 0, 1] rfl) (hD.sub [2, 3, 4, 5, 0, 1] (by decide) rfl) hS (lv_sub hl [1, 2, 3, 0] rfl)
        · skip
          refine lv_aload_n hx hb dX5_firstRefused_23 rfl (lv_at hl 2 rfl) ?_
          refine lv_iload_n hx hb dX5_firstRefused_24 rfl (lv_at hl 3 rfl) ?_
          refine call_x (va_runV (As := [.int (nI i_)]) (rest := []) ⟨hx, hb, hml, hown, hts⟩ (kX3_at ln dg tq (w0 := w0) (w1 := w1) (len := len) (pc := pc) (k := i_) (hk := (by omega)) (hlen := (by omega)) H.size) (cwV 1 hts gX5_firstRefused_X3_at rfl rfl rfl hdX3_at ⟨Nat.le_of_ble_eq_true rfl, Nat.le_of_ble_eq_true rfl⟩) (preVR hK hN hP [0, 1] rfl 0 rfl rfl [.int (nI i_)]) rfl rfl hl.1 rfl (lv_room (Nat.le_of_ble_eq_true rfl)) dX5_firstRefused_25 ⟨Nat.le_refl _, Nat.le_refl _⟩) hP hS hA (fun H locs hP hS => ?_)
          refine r_top (show (pc i_) = (nI (E i_)) from hE1) ?_
          exact hret (nI (E i_)) (g17) H locs _ ls (by rw [hi2, show len - i_ = (len - (i_ + 1)) + 1 by omega, fstR, c20]; rfl) rfl (hP.sub [2, 3, 4, 5, 0, 1] rfl) (hD.sub [2, 3, 4, 5, 0, 1] (by decide) rfl) hS dX5_firstRefused_28
  exact loop2 _ 0 f H locs ls (⟨by omega, rfl, hV⟩) (Nat.lt_succ_self _) (hP.sub [0, 1, 2, 3, 4, 5] rfl) (hD.sub [0, 1, 2, 3, 4, 5] (by decide) rfl) hS (lv_sub hl [1, 2, 3, 0] rfl)
