theorem hdX1_addEntry : yX1_addEntry.cls = RX1 ∧ yX1_addEntry.cls ≠ "java/lang/invoke/MethodHandle" ∧ yX1_addEntry.cls ≠ "java/lang/invoke/VarHandle" ∧ (parseMethodDescriptor yX1_addEntry.desc).map (fun d => d.parameters.length) = some 5 := by decide +kernel
set_option maxHeartbeats 4000000 in
set_option maxRecDepth 100000 in
theorem kX1_addEntry (ln : Launch) (dg : va_G) (tq : ClassId × ClassId) (h0 h1 : Nat) (c : Row) (s : Row) (hR : XR s c) (hW : WF s) (k f t a o : Int32) (hn : nE s < 60) : MW ln yX1_addEntry wsX1_addEntry (rmm 2 44) dg tq [.ref h0, .int k, .int f, .int t, .int a, .int o] [(h0, .inr (1, [.ref h1])), (h1, .inl (tq.1, 1473, .inl c))] (fun (r : Int32) (u : Unit) => r = (nI (nE s))) (fun u => [(h0, .inr (1, [.ref h1])), (h1, .inl (tq.1, 1473, .inl (xputE s c k f t a o)))]) := by
  refine MW.enter cX1_addEntry 7 .int (by decide) rfl rfl (Nat.le_of_ble_eq_true rfl) ?_
  intro pP eE sS mM aA bB mT cC QQ AA hA hAT hret H locs hP hD hS ls hl
  obtain ⟨hx, hb, hml, hown, hts, hK, hN⟩ := hAT
  have hown : sS.vm.findClass RX1 = some mM.cls := hown
  have hl : lv_has ls 7 [(0, .ref h0), (1, .int k), (2, .int f), (3, .int t), (4, .int a), (5, .int o)] := hl
  have hn60 := hW.n60
  have hb10 := hW.b10
  have hs8 := hW.s8
  have hhn := hW.hn
  refine lv_aload_n hx hb dX1_addEntry_0 rfl (lv_at hl 0 rfl) ?_
  refine lv_iconst (v := (nI 0)) hx hb dX1_addEntry_1 (by decide) ?_
  refine call_x (va_runV (As := [.int (nI 0)]) (rest := []) ⟨hx, hb, hml, hown, hts⟩ (kX1_number ln dg tq (h0 := h0) (h1 := h1) (c := c) (k := 0) (hk := (by omega)) H.size) (cwV 1 hts gX1_addEntry_X1_number rfl rfl rfl hdX1_number ⟨Nat.le_of_ble_eq_true rfl, Nat.le_of_ble_eq_true rfl⟩) (preVR hK hN hP [0, 1] rfl 0 rfl rfl [.int (nI 0)]) rfl rfl hl.1 rfl (lv_room (Nat.le_of_ble_eq_true rfl)) dX1_addEntry_2 ⟨Nat.le_refl _, Nat.le_refl _⟩) hP hS hA (fun H locs hP hS => ?_)
  refine r_top (show (c 0) = (nI (nE s)) from hR.nn hW) ?_
  refine lv_istore (lv' := [(6, .int (nI (nE s))), (0, .ref h0), (1, .int k), (2, .int f), (3, .int t), (4, .int a), (5, .int o)]) hx hb dX1_addEntry_5 hl (by decide) rfl (fun ls hl => ?_)
  refine lv_aload_n hx hb dX1_addEntry_7 rfl (lv_at hl 1 rfl) ?_
  refine lv_iload hx hb dX1_addEntry_8 (lv_at hl 0 rfl) ?_
  refine lv_iconst (v := (nI 0)) hx hb dX1_addEntry_10 (by decide) ?_
  refine lv_iload_n hx hb dX1_addEntry_11 rfl (lv_at hl 2 rfl) ?_
  refine call_v (wr := []) (va_runV (As := [.int (nI (nE s)), .int (nI 0), .int k]) (rest := []) ⟨hx, hb, hml, hown, hts⟩ (kX1_setOfEntry ln dg tq (h0 := h0) (h1 := h1) (c := c) (e := nE s) (f := 0) (v := k) (he := (by omega)) (hf := (by omega)) H.size) (cwV 3 hts gX1_addEntry_X1_setOfEntry rfl rfl rfl hdX1_setOfEntry ⟨Nat.le_of_ble_eq_true rfl, Nat.le_of_ble_eq_true rfl⟩) (preVB hK hN hP hD [0, 1] rfl rfl rfl 0 rfl rfl [.int (nI (nE s)), .int (nI 0), .int k]) rfl rfl hl.1 rfl (lv_room (Nat.le_of_ble_eq_true rfl)) dX1_addEntry_12 ⟨Nat.le_refl _, Nat.le_refl _⟩) hP hD hS hA [0, 1] [] rfl rfl (by decide) (by decide) (fun u12 H locs hw12 hP hD hS => ?_)
  have hP : va_P dg vwCl [(h0, .inr (1, [.ref h1])), (h1, .inl (tq.1, 1473, .inl (upd c (5 + (nE s) * 7 + 0) k)))] H := hP
  have hD : va_D AA [(h0, .inr (1, [.ref h1])), (h1, .inl (tq.1, 1473, .inl (upd c (5 + (nE s) * 7 + 0) k)))] := hD
  refine lv_aload_n hx hb dX1_addEntry_15 rfl (lv_at hl 1 rfl) ?_
  refine lv_iload hx hb dX1_addEntry_16 (lv_at hl 0 rfl) ?_
  refine lv_iconst (v := (nI 1)) hx hb dX1_addEntry_18 (by decide) ?_
  refine lv_iload_n hx hb dX1_addEntry_19 rfl (lv_at hl 3 rfl) ?_
  refine call_v (wr := []) (va_runV (As := [.int (nI (nE s)), .int (nI 1), .int f]) (rest := []) ⟨hx, hb, hml, hown, hts⟩ (kX1_setOfEntry ln dg tq (h0 := h0) (h1 := h1) (c := upd c (5 + (nE s) * 7 + 0) k) (e := nE s) (f := 1) (v := f) (he := (by omega)) (hf := (by omega)) H.size) (cwV 3 hts gX1_addEntry_X1_setOfEntry rfl rfl rfl hdX1_setOfEntry ⟨Nat.le_of_ble_eq_true rfl, Nat.le_of_ble_eq_true rfl⟩) (preVB hK hN hP hD [0, 1] rfl rfl rfl 0 rfl rfl [.int (nI (nE s)), .int (nI 1), .int f]) rfl rfl hl.1 rfl (lv_room (Nat.le_of_ble_eq_true rfl)) dX1_addEntry_20 ⟨Nat.le_refl _, Nat.le_refl _⟩) hP hD hS hA [0, 1] [] rfl rfl (by decide) (by decide) (fun u20 H locs hw20 hP hD hS => ?_)
  have hP : va_P dg vwCl [(h0, .inr (1, [.ref h1])), (h1, .inl (tq.1, 1473, .inl (upd (upd c (5 + (nE s) * 7 + 0) k) (5 + (nE s) * 7 + 1) f)))] H := hP
  have hD : va_D AA [(h0, .inr (1, [.ref h1])), (h1, .inl (tq.1, 1473, .inl (upd (upd c (5 + (nE s) * 7 + 0) k) (5 + (nE s) * 7 + 1) f)))] := hD
  refine lv_aload_n hx hb dX1_addEntry_23 rfl (lv_at hl 1 rfl) ?_
  refine lv_iload hx hb dX1_addEntry_24 (lv_at hl 0 rfl) ?_
  refine lv_iconst (v := (nI 2)) hx hb dX1_addEntry_26 (by decide) ?_
  refine lv_iload_n hx hb dX1_addEntry_27 rfl (lv_at hl 4 rfl) ?_
  refine call_v (wr := []) (va_runV (As := [.int (nI (nE s)), .int (nI 2), .int t]) (rest := []) ⟨hx, hb, hml, hown, hts⟩ (kX1_setOfEntry ln dg tq (h0 := h0) (h1 := h1) (c := upd (upd c (5 + (nE s) * 7 + 0) k) (5 + (nE s) * 7 + 1) f) (e := nE s) (f := 2) (v := t) (he := (by omega)) (hf := (by omega)) H.size) (cwV 3 hts gX1_addEntry_X1_setOfEntry rfl rfl rfl hdX1_setOfEntry ⟨Nat.le_of_ble_eq_true rfl, Nat.le_of_ble_eq_true rfl⟩) (preVB hK hN hP hD [0, 1] rfl rfl rfl 0 rfl rfl [.int (nI (nE s)), .int (nI 2), .int t]) rfl rfl hl.1 rfl (lv_room (Nat.le_of_ble_eq_true rfl)) dX1_addEntry_28 ⟨Nat.le_refl _, Nat.le_refl _⟩) hP hD hS hA [0, 1] [] rfl rfl (by decide) (by decide) (fun u28 H locs hw28 hP hD hS => ?_)
  have hP : va_P dg vwCl [(h0, .inr (1, [.ref h1])), (h1, .inl (tq.1, 1473, .inl (upd (upd (upd c (5 + (nE s) * 7 + 0) k) (5 + (nE s) * 7 + 1) f) (5 + (nE s) * 7 + 2) t)))] H := hP
  have hD : va_D AA [(h0, .inr (1, [.ref h1])), (h1, .inl (tq.1, 1473, .inl (upd (upd (upd c (5 + (nE s) * 7 + 0) k) (5 + (nE s) * 7 + 1) f) (5 + (nE s) * 7 + 2) t)))] := hD
  refine lv_aload_n hx hb dX1_addEntry_31 rfl (lv_at hl 1 rfl) ?_
  refine lv_iload hx hb dX1_addEntry_32 (lv_at hl 0 rfl) ?_
  refine lv_iconst (v := (nI 3)) hx hb dX1_addEntry_34 (by decide) ?_
  refine lv_iload hx hb dX1_addEntry_35 (lv_at hl 5 rfl) ?_
  refine call_v (wr := []) (va_runV (As := [.int (nI (nE s)), .int (nI 3), .int a]) (rest := []) ⟨hx, hb, hml, hown, hts⟩ (kX1_setOfEntry ln dg tq (h0 := h0) (h1 := h1) (c := upd (upd (upd c (5 + (nE s) * 7 + 0) k) (5 + (nE s) * 7 + 1) f) (5 + (nE s) * 7 + 2) t) (e := nE s) (f := 3) (v := a) (he := (by omega)) (hf := (by omega)) H.size) (cwV 3 hts gX1_addEntry_X1_setOfEntry rfl rfl rfl hdX1_setOfEntry ⟨Nat.le_of_ble_eq_true rfl, Nat.le_of_ble_eq_true rfl⟩) (preVB hK hN hP hD [0, 1] rfl rfl rfl 0 rfl rfl [.int (nI (nE s)), .int (nI 3), .int a]) rfl rfl hl.1 rfl (lv_room (Nat.le_of_ble_eq_true rfl)) dX1_addEntry_37 ⟨Nat.le_refl _, Nat.le_refl _⟩) hP hD hS hA [0, 1] [] rfl rfl (by decide) (by decide) (fun u37 H locs hw37 hP hD hS => ?_)
  have hP : va_P dg vwCl [(h0, .inr (1, [.ref h1])), (h1, .inl (tq.1, 1473, .inl (upd (upd (upd (upd c (5 + (nE s) * 7 + 0) k) (5 + (nE s) * 7 + 1) f) (5 + (nE s) * 7 + 2) t) (5 + (nE s) * 7 + 3) a)))] H := hP
  have hD : va_D AA [(h0, .inr (1, [.ref h1])), (h1, .inl (tq.1, 1473, .inl (upd (upd (upd (upd c (5 + (nE s) * 7 + 0) k) (5 + (nE s) * 7 + 1) f) (5 + (nE s) * 7 + 2) t) (5 + (nE s) * 7 + 3) a)))] := hD
  refine lv_aload_n hx hb dX1_addEntry_40 rfl (lv_at hl 1 rfl) ?_
  refine lv_iload hx hb dX1_addEntry_41 (lv_at hl 0 rfl) ?_
  refine lv_iconst (v := (nI 4)) hx hb dX1_addEntry_43 (by decide) ?_
  refine lv_aload_n hx hb dX1_addEntry_44 rfl (lv_at hl 1 rfl) ?_
  refine lv_iconst (v := (nI 1)) hx hb dX1_addEntry_45 (by decide) ?_
  refine call_x (va_runV (As := [.int (nI 1)]) (rest := [.int (nI 4), .int (nI (nE s)), .ref h0]) ⟨hx, hb, hml, hown, hts⟩ (kX1_number ln dg tq (h0 := h0) (h1 := h1) (c := upd (upd (upd (upd c (5 + (nE s) * 7 + 0) k) (5 + (nE s) * 7 + 1) f) (5 + (nE s) * 7 + 2) t) (5 + (nE s) * 7 + 3) a) (k := 1) (hk := (by omega)) H.size) (cwV 1 hts gX1_addEntry_X1_number rfl rfl rfl hdX1_number ⟨Nat.le_of_ble_eq_true rfl, Nat.le_of_ble_eq_true rfl⟩) (preVR hK hN hP [0, 1] rfl 0 rfl rfl [.int (nI 1)]) rfl rfl hl.1 rfl (lv_room (Nat.le_of_ble_eq_true rfl)) dX1_addEntry_46 ⟨Nat.le_refl _, Nat.le_refl _⟩) hP hS hA (fun H locs hP hS => ?_)
  refine r_top (show ((upd (upd (upd (upd c (5 + (nE s) * 7 + 0) k) (5 + (nE s) * 7 + 1) f) (5 + (nE s) * 7 + 2) t) (5 + (nE s) * 7 + 3) a) 1) = (nI (hE s)) from by (repeat rw [pk_un (by omega)]); exact hR.hh hW) ?_
  refine call_v (wr := []) (va_runV (As := [.int (nI (nE s)), .int (nI 4), .int (nI (hE s))]) (rest := []) ⟨hx, hb, hml, hown, hts⟩ (kX1_setOfEntry ln dg tq (h0 := h0) (h1 := h1) (c := upd (upd (upd (upd c (5 + (nE s) * 7 + 0) k) (5 + (nE s) * 7 + 1) f) (5 + (nE s) * 7 + 2) t) (5 + (nE s) * 7 + 3) a) (e := nE s) (f := 4) (v := (nI (hE s))) (he := (by omega)) (hf := (by omega)) H.size) (cwV 3 hts gX1_addEntry_X1_setOfEntry rfl rfl rfl hdX1_setOfEntry ⟨Nat.le_of_ble_eq_true rfl, Nat.le_of_ble_eq_true rfl⟩) (preVB hK hN hP hD [0, 1] rfl rfl rfl 0 rfl rfl [.int (nI (nE s)), .int (nI 4), .int (nI (hE s))]) rfl rfl hl.1 rfl (lv_room (Nat.le_of_ble_eq_true rfl)) dX1_addEntry_49 ⟨Nat.le_refl _, Nat.le_refl _⟩) hP hD hS hA [0, 1] [] rfl rfl (by decide) (by decide) (fun u49 H locs hw49 hP hD hS => ?_)
  have hP : va_P dg vwCl [(h0, .inr (1, [.ref h1])), (h1, .inl (tq.1, 1473, .inl (upd (upd (upd (upd (upd c (5 + (nE s) * 7 + 0) k) (5 + (nE s) * 7 + 1) f) (5 + (nE s) * 7 + 2) t) (5 + (nE s) * 7 + 3) a) (5 + (nE s) * 7 + 4) (nI (hE s)))))] H := hP
  have hD : va_D AA [(h0, .inr (1, [.ref h1])), (h1, .inl (tq.1, 1473, .inl (upd (upd (upd (upd (upd c (5 + (nE s) * 7 + 0) k) (5 + (nE s) * 7 + 1) f) (5 + (nE s) * 7 + 2) t) (5 + (nE s) * 7 + 3) a) (5 + (nE s) * 7 + 4) (nI (hE s)))))] := hD
  refine lv_aload_n hx hb dX1_addEntry_52 rfl (lv_at hl 1 rfl) ?_
  refine lv_iload hx hb dX1_addEntry_53 (lv_at hl 0 rfl) ?_
  refine lv_bipush (v := (nI 6)) hx hb dX1_addEntry_55 (by decide) ?_
  refine lv_iload hx hb dX1_addEntry_57 (lv_at hl 6 rfl) ?_
  refine call_v (wr := []) (va_runV (As := [.int (nI (nE s)), .int (nI 6), .int o]) (rest := []) ⟨hx, hb, hml, hown, hts⟩ (kX1_setOfEntry ln dg tq (h0 := h0) (h1 := h1) (c := upd (upd (upd (upd (upd c (5 + (nE s) * 7 + 0) k) (5 + (nE s) * 7 + 1) f) (5 + (nE s) * 7 + 2) t) (5 + (nE s) * 7 + 3) a) (5 + (nE s) * 7 + 4) (nI (hE s))) (e := nE s) (f := 6) (v := o) (he := (by omega)) (hf := (by omega)) H.size) (cwV 3 hts gX1_addEntry_X1_setOfEntry rfl rfl rfl hdX1_setOfEntry ⟨Nat.le_of_ble_eq_true rfl, Nat.le_of_ble_eq_true rfl⟩) (preVB hK hN hP hD [0, 1] rfl rfl rfl 0 rfl rfl [.int (nI (nE s)), .int (nI 6), .int o]) rfl rfl hl.1 rfl (lv_room (Nat.le_of_ble_eq_true rfl)) dX1_addEntry_59 ⟨Nat.le_refl _, Nat.le_refl _⟩) hP hD hS hA [0, 1] [] rfl rfl (by decide) (by decide) (fun u59 H locs hw59 hP hD hS => ?_)
  have hP : va_P dg vwCl [(h0, .inr (1, [.ref h1])), (h1, .inl (tq.1, 1473, .inl (upd (upd (upd (upd (upd (upd c (5 + (nE s) * 7 + 0) k) (5 + (nE s) * 7 + 1) f) (5 + (nE s) * 7 + 2) t) (5 + (nE s) * 7 + 3) a) (5 + (nE s) * 7 + 4) (nI (hE s))) (5 + (nE s) * 7 + 6) o)))] H := hP
  have hD : va_D AA [(h0, .inr (1, [.ref h1])), (h1, .inl (tq.1, 1473, .inl (upd (upd (upd (upd (upd (upd c (5 + (nE s) * 7 + 0) k) (5 + (nE s) * 7 + 1) f) (5 + (nE s) * 7 + 2) t) (5 + (nE s) * 7 + 3) a) (5 + (nE s) * 7 + 4) (nI (hE s))) (5 + (nE s) * 7 + 6) o)))] := hD
  refine lv_aload_n hx hb dX1_addEntry_62 rfl (lv_at hl 1 rfl) ?_
  refine lv_iload hx hb dX1_addEntry_63 (lv_at hl 0 rfl) ?_
  refine lv_iconst (v := (nI 5)) hx hb dX1_addEntry_65 (by decide) ?_
  refine lv_aload_n hx hb dX1_addEntry_66 rfl (lv_at hl 1 rfl) ?_
  refine lv_iload hx hb dX1_addEntry_67 (lv_at hl 0 rfl) ?_
  refine call_x (va_runV (As := [.int (nI (nE s))]) (rest := [.int (nI 5), .int (nI (nE s)), .ref h0]) ⟨hx, hb, hml, hown, hts⟩ (kX1_fittingLink ln dg tq (h0 := h0) (h1 := h1) (c := upd (upd (upd (upd (upd (upd c (5 + (nE s) * 7 + 0) k) (5 + (nE s) * 7 + 1) f) (5 + (nE s) * 7 + 2) t) (5 + (nE s) * 7 + 3) a) (5 + (nE s) * 7 + 4) (nI (hE s))) (5 + (nE s) * 7 + 6) o) (e := nE s) (p := hE s) (he := (by omega)) (hp := (fun h0 => by repeat first | rw [pk_us] | rw [pk_un (by omega)])) (hp2 := (fun h0 => by omega)) H.size) (cwV 1 hts gX1_addEntry_X1_fittingLink rfl rfl rfl hdX1_fittingLink ⟨Nat.le_of_ble_eq_true rfl, Nat.le_of_ble_eq_true rfl⟩) (preVR hK hN hP [0, 1] rfl 0 rfl rfl [.int (nI (nE s))]) rfl rfl hl.1 rfl (lv_room (Nat.le_of_ble_eq_true rfl)) dX1_addEntry_69 ⟨Nat.le_refl _, Nat.le_refl _⟩) hP hS hA (fun H locs hP hS => ?_)
  refine r_top (show (xfit (upd (upd (upd (upd (upd (upd c (5 + (nE s) * 7 + 0) k) (5 + (nE s) * 7 + 1) f) (5 + (nE s) * 7 + 2) t) (5 + (nE s) * 7 + 3) a) (5 + (nE s) * 7 + 4) (nI (hE s))) (5 + (nE s) * 7 + 6) o) (nE s) (hE s)) = (fitX (me s (hE s) 5) k f t a (nE s)) from by unfold xfit; rw [if_neg (by omega)]; (repeat first | rw [pk_us] | rw [pk_un (by omega)]); rw [hR.l (by omega)]) ?_
  refine call_v (wr := []) (va_runV (As := [.int (nI (nE s)), .int (nI 5), .int (fitX (me s (hE s) 5) k f t a (nE s))]) (rest := []) ⟨hx, hb, hml, hown, hts⟩ (kX1_setOfEntry ln dg tq (h0 := h0) (h1 := h1) (c := upd (upd (upd (upd (upd (upd c (5 + (nE s) * 7 + 0) k) (5 + (nE s) * 7 + 1) f) (5 + (nE s) * 7 + 2) t) (5 + (nE s) * 7 + 3) a) (5 + (nE s) * 7 + 4) (nI (hE s))) (5 + (nE s) * 7 + 6) o) (e := nE s) (f := 5) (v := (fitX (me s (hE s) 5) k f t a (nE s))) (he := (by omega)) (hf := (by omega)) H.size) (cwV 3 hts gX1_addEntry_X1_setOfEntry rfl rfl rfl hdX1_setOfEntry ⟨Nat.le_of_ble_eq_true rfl, Nat.le_of_ble_eq_true rfl⟩) (preVB hK hN hP hD [0, 1] rfl rfl rfl 0 rfl rfl [.int (nI (nE s)), .int (nI 5), .int (fitX (me s (hE s) 5) k f t a (nE s))]) rfl rfl hl.1 rfl (lv_room (Nat.le_of_ble_eq_true rfl)) dX1_addEntry_72 ⟨Nat.le_refl _, Nat.le_refl _⟩) hP hD hS hA [0, 1] [] rfl rfl (by decide) (by decide) (fun u72 H locs hw72 hP hD hS => ?_)
  have hP : va_P dg vwCl [(h0, .inr (1, [.ref h1])), (h1, .inl (tq.1, 1473, .inl (upd (upd (upd (upd (upd (upd (upd c (5 + (nE s) * 7 + 0) k) (5 + (nE s) * 7 + 1) f) (5 + (nE s) * 7 + 2) t) (5 + (nE s) * 7 + 3) a) (5 + (nE s) * 7 + 4) (nI (hE s))) (5 + (nE s) * 7 + 6) o) (5 + (nE s) * 7 + 5) (fitX (me s (hE s) 5) k f t a (nE s)))))] H := hP
  have hD : va_D AA [(h0, .inr (1, [.ref h1])), (h1, .inl (tq.1, 1473, .inl (upd (upd (upd (upd (upd (upd (upd c (5 + (nE s) * 7 + 0) k) (5 + (nE s) * 7 + 1) f) (5 + (nE s) * 7 + 2) t) (5 + (nE s) * 7 + 3) a) (5 + (nE s) * 7 + 4) (nI (hE s))) (5 + (nE s) * 7 + 6) o) (5 + (nE s) * 7 + 5) (fitX (me s (hE s) 5) k f t a (nE s)))))] := hD
  refine lv_aload_n hx hb dX1_addEntry_75 rfl (lv_at hl 1 rfl) ?_
  refine lv_iconst (v := (nI 0)) hx hb dX1_addEntry_76 (by decide) ?_
  refine lv_iload hx hb dX1_addEntry_77 (lv_at hl 0 rfl) ?_
  refine lv_iconst (v := (nI 1)) hx hb dX1_addEntry_79 (by decide) ?_
  refine r_iadd_n hx hb dX1_addEntry_80 ?_
  refine call_v (wr := []) (va_runV (As := [.int (nI 0), .int (nI ((nE s) + 1))]) (rest := []) ⟨hx, hb, hml, hown, hts⟩ (kX1_setNumber ln dg tq (h0 := h0) (h1 := h1) (c := upd (upd (upd (upd (upd (upd (upd c (5 + (nE s) * 7 + 0) k) (5 + (nE s) * 7 + 1) f) (5 + (nE s) * 7 + 2) t) (5 + (nE s) * 7 + 3) a) (5 + (nE s) * 7 + 4) (nI (hE s))) (5 + (nE s) * 7 + 6) o) (5 + (nE s) * 7 + 5) (fitX (me s (hE s) 5) k f t a (nE s))) (k := 0) (v := (nI ((nE s) + 1))) (hk := (by omega)) H.size) (cwV 2 hts gX1_addEntry_X1_setNumber rfl rfl rfl hdX1_setNumber ⟨Nat.le_of_ble_eq_true rfl, Nat.le_of_ble_eq_true rfl⟩) (preVB hK hN hP hD [0, 1] rfl rfl rfl 0 rfl rfl [.int (nI 0), .int (nI ((nE s) + 1))]) rfl rfl hl.1 rfl (lv_room (Nat.le_of_ble_eq_true rfl)) dX1_addEntry_81 ⟨Nat.le_refl _, Nat.le_refl _⟩) hP hD hS hA [0, 1] [] rfl rfl (by decide) (by decide) (fun u81 H locs hw81 hP hD hS => ?_)
  have hP : va_P dg vwCl [(h0, .inr (1, [.ref h1])), (h1, .inl (tq.1, 1473, .inl (upd (upd (upd (upd (upd (upd (upd (upd c (5 + (nE s) * 7 + 0) k) (5 + (nE s) * 7 + 1) f) (5 + (nE s) * 7 + 2) t) (5 + (nE s) * 7 + 3) a) (5 + (nE s) * 7 + 4) (nI (hE s))) (5 + (nE s) * 7 + 6) o) (5 + (nE s) * 7 + 5) (fitX (me s (hE s) 5) k f t a (nE s))) 0 (nI ((nE s) + 1)))))] H := hP
  have hD : va_D AA [(h0, .inr (1, [.ref h1])), (h1, .inl (tq.1, 1473, .inl (upd (upd (upd (upd (upd (upd (upd (upd c (5 + (nE s) * 7 + 0) k) (5 + (nE s) * 7 + 1) f) (5 + (nE s) * 7 + 2) t) (5 + (nE s) * 7 + 3) a) (5 + (nE s) * 7 + 4) (nI (hE s))) (5 + (nE s) * 7 + 6) o) (5 + (nE s) * 7 + 5) (fitX (me s (hE s) 5) k f t a (nE s))) 0 (nI ((nE s) + 1)))))] := hD
  refine lv_aload_n hx hb dX1_addEntry_84 rfl (lv_at hl 1 rfl) ?_
  refine lv_iconst (v := (nI 1)) hx hb dX1_addEntry_85 (by decide) ?_
  refine lv_iload hx hb dX1_addEntry_86 (lv_at hl 0 rfl) ?_
  refine call_v (wr := []) (va_runV (As := [.int (nI 1), .int (nI (nE s))]) (rest := []) ⟨hx, hb, hml, hown, hts⟩ (kX1_setNumber ln dg tq (h0 := h0) (h1 := h1) (c := upd (upd (upd (upd (upd (upd (upd (upd c (5 + (nE s) * 7 + 0) k) (5 + (nE s) * 7 + 1) f) (5 + (nE s) * 7 + 2) t) (5 + (nE s) * 7 + 3) a) (5 + (nE s) * 7 + 4) (nI (hE s))) (5 + (nE s) * 7 + 6) o) (5 + (nE s) * 7 + 5) (fitX (me s (hE s) 5) k f t a (nE s))) 0 (nI ((nE s) + 1))) (k := 1) (v := (nI (nE s))) (hk := (by omega)) H.size) (cwV 2 hts gX1_addEntry_X1_setNumber rfl rfl rfl hdX1_setNumber ⟨Nat.le_of_ble_eq_true rfl, Nat.le_of_ble_eq_true rfl⟩) (preVB hK hN hP hD [0, 1] rfl rfl rfl 0 rfl rfl [.int (nI 1), .int (nI (nE s))]) rfl rfl hl.1 rfl (lv_room (Nat.le_of_ble_eq_true rfl)) dX1_addEntry_88 ⟨Nat.le_refl _, Nat.le_refl _⟩) hP hD hS hA [0, 1] [] rfl rfl (by decide) (by decide) (fun u88 H locs hw88 hP hD hS => ?_)
  have hP : va_P dg vwCl [(h0, .inr (1, [.ref h1])), (h1, .inl (tq.1, 1473, .inl (upd (upd (upd (upd (upd (upd (upd (upd (upd c (5 + (nE s) * 7 + 0) k) (5 + (nE s) * 7 + 1) f) (5 + (nE s) * 7 + 2) t) (5 + (nE s) * 7 + 3) a) (5 + (nE s) * 7 + 4) (nI (hE s))) (5 + (nE s) * 7 + 6) o) (5 + (nE s) * 7 + 5) (fitX (me s (hE s) 5) k f t a (nE s))) 0 (nI ((nE s) + 1))) 1 (nI (nE s)))))] H := hP
  have hD : va_D AA [(h0, .inr (1, [.ref h1])), (h1, .inl (tq.1, 1473, .inl (upd (upd (upd (upd (upd (upd (upd (upd (upd c (5 + (nE s) * 7 + 0) k) (5 + (nE s) * 7 + 1) f) (5 + (nE s) * 7 + 2) t) (5 + (nE s) * 7 + 3) a) (5 + (nE s) * 7 + 4) (nI (hE s))) (5 + (nE s) * 7 + 6) o) (5 + (nE s) * 7 + 5) (fitX (me s (hE s) 5) k f t a (nE s))) 0 (nI ((nE s) + 1))) 1 (nI (nE s)))))] := hD
  refine lv_iload hx hb dX1_addEntry_91 (lv_at hl 0 rfl) ?_
  exact hret (nI (nE s)) (()) H locs _ ls (rfl) rfl (hP.sub [0, 1] rfl) (hD.sub [0, 1] (by decide) rfl) hS dX1_addEntry_93
theorem hdX1_addAnew : yX1_addAnew.cls = RX1 ∧ yX1_addAnew.cls ≠ "java/lang/invoke/MethodHandle" ∧ yX1_addAnew.cls ≠ "java/lang/invoke/VarHandle" ∧ (parseMethodDescriptor yX1_addAnew.desc).map (fun d => d.parameters.length) = some 1 := by decide +kernel
set_option maxHeartbeats 4000000 in
set_option maxRecDepth 100000 in
theorem kX1_addAnew (ln : Launch) (dg : va_G) (tq : ClassId × ClassId) (h0 h1 : Nat) (c : Row) (s : Row) (hR : XR s c) (hW : WF s) (e : Nat) (hn : nE s < 60) (he : e < nE s) : MV ln yX1_addAnew wsX1_addAnew (rmm 3 70) dg tq [.ref h0, .int (nI e)] [(h0, .inr (1, [.ref h1])), (h1, .inl (tq.1, 1473, .inl c))] (fun (u : Unit) => True) (fun u => [(h0, .inr (1, [.ref h1])), (h1, .inl (tq.1, 1473, .inl (xputE s c (me s e 1) (nI (a1 s e)) (nI (a2 s e)) (me s e 4) (nI e))))]) := by
  refine MV.enter cX1_addAnew 4 (by decide) rfl rfl (Nat.le_of_ble_eq_true rfl) ?_
  intro pP eE sS mM aA bB mT cC QQ AA hA hAT hret H locs hP hD hS ls hl
  obtain ⟨hx, hb, hml, hown, hts, hK, hN⟩ := hAT
  have hown : sS.vm.findClass RX1 = some mM.cls := hown
  have hl : lv_has ls 4 [(0, .ref h0), (1, .int (nI e))] := hl
  have hn60 := hW.n60
  have hb10 := hW.b10
  have hs8 := hW.s8
  refine lv_aload_n hx hb dX1_addAnew_0 rfl (lv_at hl 0 rfl) ?_
  refine lv_iload_n hx hb dX1_addAnew_1 rfl (lv_at hl 1 rfl) ?_
  refine lv_iconst (v := (nI 1)) hx hb dX1_addAnew_2 (by decide) ?_
  refine call_x (va_runV (As := [.int (nI e), .int (nI 1)]) (rest := []) ⟨hx, hb, hml, hown, hts⟩ (kX1_ofEntry ln dg tq (h0 := h0) (h1 := h1) (c := c) (e := e) (f := 1) (he := (by omega)) (hf := (by omega)) H.size) (cwV 2 hts gX1_addAnew_X1_ofEntry rfl rfl rfl hdX1_ofEntry ⟨Nat.le_of_ble_eq_true rfl, Nat.le_of_ble_eq_true rfl⟩) (preVR hK hN hP [0, 1] rfl 0 rfl rfl [.int (nI e), .int (nI 1)]) rfl rfl hl.1 rfl (lv_room (Nat.le_of_ble_eq_true rfl)) dX1_addAnew_3 ⟨Nat.le_refl _, Nat.le_refl _⟩) hP hS hA (fun H locs hP hS => ?_)
  refine r_top (show (c (5 + e * 7 + 1)) = (nI (a1 s e)) from hR.A1 hW (by omega)) ?_
  refine lv_istore_n (lv' := [(2, .int (nI (a1 s e))), (0, .ref h0), (1, .int (nI e))]) hx hb dX1_addAnew_6 rfl hl (by decide) rfl (fun ls hl => ?_)
  refine lv_aload_n hx hb dX1_addAnew_7 rfl (lv_at hl 1 rfl) ?_
  refine lv_iload_n hx hb dX1_addAnew_8 rfl (lv_at hl 2 rfl) ?_
  refine lv_iconst (v := (nI 2)) hx hb dX1_addAnew_9 (by decide) ?_
  refine call_x (va_runV (As := [.int (nI e), .int (nI 2)]) (rest := []) ⟨hx, hb, hml, hown, hts⟩ (kX1_ofEntry ln dg tq (h0 := h0) (h1 := h1) (c := c) (e := e) (f := 2) (he := (by omega)) (hf := (by omega)) H.size) (cwV 2 hts gX1_addAnew_X1_ofEntry rfl rfl rfl hdX1_ofEntry ⟨Nat.le_of_ble_eq_true rfl, Nat.le_of_ble_eq_true rfl⟩) (preVR hK hN hP [0, 1] rfl 0 rfl rfl [.int (nI e), .int (nI 2)]) rfl rfl hl.1 rfl (lv_room (Nat.le_of_ble_eq_true rfl)) dX1_addAnew_10 ⟨Nat.le_refl _, Nat.le_refl _⟩) hP hS hA (fun H locs hP hS => ?_)
  refine r_top (show (c (5 + e * 7 + 2)) = (nI (a2 s e)) from hR.A2 hW (by omega)) ?_
  refine lv_istore_n (lv' := [(3, .int (nI (a2 s e))), (2, .int (nI (a1 s e))), (0, .ref h0), (1, .int (nI e))]) hx hb dX1_addAnew_13 rfl hl (by decide) rfl (fun ls hl => ?_)
  refine lv_aload_n hx hb dX1_addAnew_14 rfl (lv_at hl 2 rfl) ?_
  refine lv_aload_n hx hb dX1_addAnew_15 rfl (lv_at hl 2 rfl) ?_
  refine lv_iload_n hx hb dX1_addAnew_16 rfl (lv_at hl 3 rfl) ?_
  refine lv_iconst (v := (nI 0)) hx hb dX1_addAnew_17 (by decide) ?_
  refine call_x (va_runV (As := [.int (nI e), .int (nI 0)]) (rest := [.ref h0]) ⟨hx, hb, hml, hown, hts⟩ (kX1_ofEntry ln dg tq (h0 := h0) (h1 := h1) (c := c) (e := e) (f := 0) (he := (by omega)) (hf := (by omega)) H.size) (cwV 2 hts gX1_addAnew_X1_ofEntry rfl rfl rfl hdX1_ofEntry ⟨Nat.le_of_ble_eq_true rfl, Nat.le_of_ble_eq_true rfl⟩) (preVR hK hN hP [0, 1] rfl 0 rfl rfl [.int (nI e), .int (nI 0)]) rfl rfl hl.1 rfl (lv_room (Nat.le_of_ble_eq_true rfl)) dX1_addAnew_18 ⟨Nat.le_refl _, Nat.le_refl _⟩) hP hS hA (fun H locs hP hS => ?_)
  refine r_top (show (c (5 + e * 7 + 0)) = (me s e 1) from hR.xkd (by omega)) ?_
  refine lv_iload_n hx hb dX1_addAnew_21 rfl (lv_at hl 1 rfl) ?_
  refine lv_iload_n hx hb dX1_addAnew_22 rfl (lv_at hl 0 rfl) ?_
  refine lv_aload_n hx hb dX1_addAnew_23 rfl (lv_at hl 2 rfl) ?_
  refine lv_iload_n hx hb dX1_addAnew_24 rfl (lv_at hl 3 rfl) ?_
  refine lv_iconst (v := (nI 3)) hx hb dX1_addAnew_25 (by decide) ?_
  refine call_x (va_runV (As := [.int (nI e), .int (nI 3)]) (rest := [.int (nI (a2 s e)), .int (nI (a1 s e)), .int (me s e 1), .ref h0]) ⟨hx, hb, hml, hown, hts⟩ (kX1_ofEntry ln dg tq (h0 := h0) (h1 := h1) (c := c) (e := e) (f := 3) (he := (by omega)) (hf := (by omega)) H.size) (cwV 2 hts gX1_addAnew_X1_ofEntry rfl rfl rfl hdX1_ofEntry ⟨Nat.le_of_ble_eq_true rfl, Nat.le_of_ble_eq_true rfl⟩) (preVR hK hN hP [0, 1] rfl 0 rfl rfl [.int (nI e), .int (nI 3)]) rfl rfl hl.1 rfl (lv_room (Nat.le_of_ble_eq_true rfl)) dX1_addAnew_26 ⟨Nat.le_refl _, Nat.le_refl _⟩) hP hS hA (fun H locs hP hS => ?_)
  refine r_top (show (c (5 + e * 7 + 3)) = (me s e 4) from hR.xam (by omega)) ?_
  refine lv_iload_n hx hb dX1_addAnew_29 rfl (lv_at hl 3 rfl) ?_
  refine call_w (wr := []) (va_runV (As := [.int (me s e 1), .int (nI (a1 s e)), .int (nI (a2 s e)), .int (me s e 4), .int (nI e)]) (rest := []) ⟨hx, hb, hml, hown, hts⟩ (kX1_addEntry ln dg tq (h0 := h0) (h1 := h1) (c := c) (s := s) (hR := hR) (hW := hW) (k := (me s e 1)) (f := (nI (a1 s e))) (t := (nI (a2 s e))) (a := (me s e 4)) (o := (nI e)) (hn := (by omega)) H.size) (cwV 5 hts gX1_addAnew_X1_addEntry rfl rfl rfl hdX1_addEntry ⟨Nat.le_of_ble_eq_true rfl, Nat.le_of_ble_eq_true rfl⟩) (preVB hK hN hP hD [0, 1] rfl rfl rfl 0 rfl rfl [.int (me s e 1), .int (nI (a1 s e)), .int (nI (a2 s e)), .int (me s e 4), .int (nI e)]) rfl rfl hl.1 rfl (lv_room (Nat.le_of_ble_eq_true rfl)) dX1_addAnew_30 ⟨Nat.le_refl _, Nat.le_refl _⟩) hP hD hS hA [0, 1] [] rfl rfl (by decide) (by decide) (fun r30 u30 H locs hw30 hP hD hS => ?_)
  have hP : va_P dg vwCl [(h0, .inr (1, [.ref h1])), (h1, .inl (tq.1, 1473, .inl (xputE s c (me s e 1) (nI (a1 s e)) (nI (a2 s e)) (me s e 4) (nI e))))] H := hP
  have hD : va_D AA [(h0, .inr (1, [.ref h1])), (h1, .inl (tq.1, 1473, .inl (xputE s c (me s e 1) (nI (a1 s e)) (nI (a2 s e)) (me s e 4) (nI e))))] := hD
  subst hw30
  refine lv_pop hx hb dX1_addAnew_33 rfl ?_
  exact hret (()) H locs _ ls (trivial) (hP.sub [0, 1] rfl) (hD.sub [0, 1] (by decide) rfl) hS dX1_addAnew_34
theorem hdX1_addSeal : yX1_addSeal.cls = RX1 ∧ yX1_addSeal.cls ≠ "java/lang/invoke/MethodHandle" ∧ yX1_addSeal.cls ≠ "java/lang/invoke/VarHandle" ∧ (parseMethodDescriptor yX1_addSeal.desc).map (fun d => d.parameters.length) = some 0 := by decide +kernel
set_option maxHeartbeats 4000000 in
set_option maxRecDepth 100000 in
theorem kX1_addSeal (ln : Launch) (dg : va_G) (tq : ClassId × ClassId) (h0 h1 : Nat) (c : Row) (s : Row) (hR : XR s c) (hW : WF s) (hn : nS s < 8) : MW ln yX1_addSeal wsX1_addSeal (rmm 1 23) dg tq [.ref h0] [(h0, .inr (1, [.ref h1])), (h1, .inl (tq.1, 1473, .inl c))] (fun (r : Int32) (u : Unit) => r = (nI (nS s))) (fun u => [(h0, .inr (1, [.ref h1])), (h1, .inl (tq.1, 1473, .inl (xsealS s c)))]) := by
  refine MW.enter cX1_addSeal 2 .int (by decide) rfl rfl (Nat.le_of_ble_eq_true rfl) ?_
  intro pP eE sS mM aA bB mT cC QQ AA hA hAT hret H locs hP hD hS ls hl
  obtain ⟨hx, hb, hml, hown, hts, hK, hN⟩ := hAT
  have hown : sS.vm.findClass RX1 = some mM.cls := hown
  have hl : lv_has ls 2 [(0, .ref h0)] := hl
  have hn60 := hW.n60
  have hb10 := hW.b10
  have hs8 := hW.s8
  have hhn := hW.hn
  refine lv_aload_n hx hb dX1_addSeal_0 rfl (lv_at hl 0 rfl) ?_
  refine lv_iconst (v := (nI 4)) hx hb dX1_addSeal_1 (by decide) ?_
  refine call_x (va_runV (As := [.int (nI 4)]) (rest := []) ⟨hx, hb, hml, hown, hts⟩ (kX1_number ln dg tq (h0 := h0) (h1 := h1) (c := c) (k := 4) (hk := (by omega)) H.size) (cwV 1 hts gX1_addSeal_X1_number rfl rfl rfl hdX1_number ⟨Nat.le_of_ble_eq_true rfl, Nat.le_of_ble_eq_true rfl⟩) (preVR hK hN hP [0, 1] rfl 0 rfl rfl [.int (nI 4)]) rfl rfl hl.1 rfl (lv_room (Nat.le_of_ble_eq_true rfl)) dX1_addSeal_2 ⟨Nat.le_refl _, Nat.le_refl _⟩) hP hS hA (fun H locs hP hS => ?_)
  refine r_top (show (c 4) = (nI (nS s)) from hR.ss hW) ?_
  refine lv_istore_n (lv' := [(1, .int (nI (nS s))), (0, .ref h0)]) hx hb dX1_addSeal_5 rfl hl (by decide) rfl (fun ls hl => ?_)
  refine lv_aload_n hx hb dX1_addSeal_6 rfl (lv_at hl 1 rfl) ?_
  refine lv_iload_n hx hb dX1_addSeal_7 rfl (lv_at hl 0 rfl) ?_
  refine lv_iconst (v := (nI 0)) hx hb dX1_addSeal_8 (by decide) ?_
  refine lv_aload_n hx hb dX1_addSeal_9 rfl (lv_at hl 1 rfl) ?_
  refine lv_iconst (v := (nI 1)) hx hb dX1_addSeal_10 (by decide) ?_
  refine call_x (va_runV (As := [.int (nI 1)]) (rest := [.int (nI 0), .int (nI (nS s)), .ref h0]) ⟨hx, hb, hml, hown, hts⟩ (kX1_number ln dg tq (h0 := h0) (h1 := h1) (c := c) (k := 1) (hk := (by omega)) H.size) (cwV 1 hts gX1_addSeal_X1_number rfl rfl rfl hdX1_number ⟨Nat.le_of_ble_eq_true rfl, Nat.le_of_ble_eq_true rfl⟩) (preVR hK hN hP [0, 1] rfl 0 rfl rfl [.int (nI 1)]) rfl rfl hl.1 rfl (lv_room (Nat.le_of_ble_eq_true rfl)) dX1_addSeal_11 ⟨Nat.le_refl _, Nat.le_refl _⟩) hP hS hA (fun H locs hP hS => ?_)
  refine r_top (show (c 1) = (nI (hE s)) from hR.hh hW) ?_
  refine call_v (wr := []) (va_runV (As := [.int (nI (nS s)), .int (nI 0), .int (nI (hE s))]) (rest := []) ⟨hx, hb, hml, hown, hts⟩ (kX1_setOfSeal ln dg tq (h0 := h0) (h1 := h1) (c := c) (e := nS s) (f := 0) (v := (nI (hE s))) (he := (by omega)) (hf := (by omega)) H.size) (cwV 3 hts gX1_addSeal_X1_setOfSeal rfl rfl rfl hdX1_setOfSeal ⟨Nat.le_of_ble_eq_true rfl, Nat.le_of_ble_eq_true rfl⟩) (preVB hK hN hP hD [0, 1] rfl rfl rfl 0 rfl rfl [.int (nI (nS s)), .int (nI 0), .int (nI (hE s))]) rfl rfl hl.1 rfl (lv_room (Nat.le_of_ble_eq_true rfl)) dX1_addSeal_14 ⟨Nat.le_refl _, Nat.le_refl _⟩) hP hD hS hA [0, 1] [] rfl rfl (by decide) (by decide) (fun u14 H locs hw14 hP hD hS => ?_)
  have hP : va_P dg vwCl [(h0, .inr (1, [.ref h1])), (h1, .inl (tq.1, 1473, .inl (upd c (475 + (nS s) * 2 + 0) (nI (hE s)))))] H := hP
  have hD : va_D AA [(h0, .inr (1, [.ref h1])), (h1, .inl (tq.1, 1473, .inl (upd c (475 + (nS s) * 2 + 0) (nI (hE s)))))] := hD
  refine lv_aload_n hx hb dX1_addSeal_17 rfl (lv_at hl 1 rfl) ?_
  refine lv_iload_n hx hb dX1_addSeal_18 rfl (lv_at hl 0 rfl) ?_
  refine lv_iconst (v := (nI 1)) hx hb dX1_addSeal_19 (by decide) ?_
  refine lv_aload_n hx hb dX1_addSeal_20 rfl (lv_at hl 1 rfl) ?_
  refine lv_aload_n hx hb dX1_addSeal_21 rfl (lv_at hl 1 rfl) ?_
  refine lv_iconst (v := (nI 1)) hx hb dX1_addSeal_22 (by decide) ?_
  refine call_x (va_runV (As := [.int (nI 1)]) (rest := [.ref h0, .int (nI 1), .int (nI (nS s)), .ref h0]) ⟨hx, hb, hml, hown, hts⟩ (kX1_number ln dg tq (h0 := h0) (h1 := h1) (c := upd c (475 + (nS s) * 2 + 0) (nI (hE s))) (k := 1) (hk := (by omega)) H.size) (cwV 1 hts gX1_addSeal_X1_number rfl rfl rfl hdX1_number ⟨Nat.le_of_ble_eq_true rfl, Nat.le_of_ble_eq_true rfl⟩) (preVR hK hN hP [0, 1] rfl 0 rfl rfl [.int (nI 1)]) rfl rfl hl.1 rfl (lv_room (Nat.le_of_ble_eq_true rfl)) dX1_addSeal_23 ⟨Nat.le_refl _, Nat.le_refl _⟩) hP hS hA (fun H locs hP hS => ?_)
  refine r_top (show ((upd c (475 + (nS s) * 2 + 0) (nI (hE s))) 1) = (nI (hE s)) from by rw [pk_un (by omega)]; exact hR.hh hW) ?_
  refine lv_iconst (v := (nI 5)) hx hb dX1_addSeal_26 (by decide) ?_
  refine call_x (va_runV (As := [.int (nI (hE s)), .int (nI 5)]) (rest := [.int (nI 1), .int (nI (nS s)), .ref h0]) ⟨hx, hb, hml, hown, hts⟩ (kX1_ofEntry ln dg tq (h0 := h0) (h1 := h1) (c := upd c (475 + (nS s) * 2 + 0) (nI (hE s))) (e := hE s) (f := 5) (he := (by omega)) (hf := (by omega)) H.size) (cwV 2 hts gX1_addSeal_X1_ofEntry rfl rfl rfl hdX1_ofEntry ⟨Nat.le_of_ble_eq_true rfl, Nat.le_of_ble_eq_true rfl⟩) (preVR hK hN hP [0, 1] rfl 0 rfl rfl [.int (nI (hE s)), .int (nI 5)]) rfl rfl hl.1 rfl (lv_room (Nat.le_of_ble_eq_true rfl)) dX1_addSeal_27 ⟨Nat.le_refl _, Nat.le_refl _⟩) hP hS hA (fun H locs hP hS => ?_)
  refine r_top (show ((upd c (475 + (nS s) * 2 + 0) (nI (hE s))) (5 + (hE s) * 7 + 5)) = (me s (hE s) 5) from by rw [pk_un (by omega)]; exact hR.l (by omega)) ?_
  refine call_v (wr := []) (va_runV (As := [.int (nI (nS s)), .int (nI 1), .int (me s (hE s) 5)]) (rest := []) ⟨hx, hb, hml, hown, hts⟩ (kX1_setOfSeal ln dg tq (h0 := h0) (h1 := h1) (c := upd c (475 + (nS s) * 2 + 0) (nI (hE s))) (e := nS s) (f := 1) (v := (me s (hE s) 5)) (he := (by omega)) (hf := (by omega)) H.size) (cwV 3 hts gX1_addSeal_X1_setOfSeal rfl rfl rfl hdX1_setOfSeal ⟨Nat.le_of_ble_eq_true rfl, Nat.le_of_ble_eq_true rfl⟩) (preVB hK hN hP hD [0, 1] rfl rfl rfl 0 rfl rfl [.int (nI (nS s)), .int (nI 1), .int (me s (hE s) 5)]) rfl rfl hl.1 rfl (lv_room (Nat.le_of_ble_eq_true rfl)) dX1_addSeal_30 ⟨Nat.le_refl _, Nat.le_refl _⟩) hP hD hS hA [0, 1] [] rfl rfl (by decide) (by decide) (fun u30 H locs hw30 hP hD hS => ?_)
  have hP : va_P dg vwCl [(h0, .inr (1, [.ref h1])), (h1, .inl (tq.1, 1473, .inl (upd (upd c (475 + (nS s) * 2 + 0) (nI (hE s))) (475 + (nS s) * 2 + 1) (me s (hE s) 5))))] H := hP
  have hD : va_D AA [(h0, .inr (1, [.ref h1])), (h1, .inl (tq.1, 1473, .inl (upd (upd c (475 + (nS s) * 2 + 0) (nI (hE s))) (475 + (nS s) * 2 + 1) (me s (hE s) 5))))] := hD
  refine lv_aload_n hx hb dX1_addSeal_33 rfl (lv_at hl 1 rfl) ?_
  refine lv_iconst (v := (nI 4)) hx hb dX1_addSeal_34 (by decide) ?_
  refine lv_iload_n hx hb dX1_addSeal_35 rfl (lv_at hl 0 rfl) ?_
  refine lv_iconst (v := (nI 1)) hx hb dX1_addSeal_36 (by decide) ?_
  refine r_iadd_n hx hb dX1_addSeal_37 ?_
  refine call_v (wr := []) (va_runV (As := [.int (nI 4), .int (nI ((nS s) + 1))]) (rest := []) ⟨hx, hb, hml, hown, hts⟩ (kX1_setNumber ln dg tq (h0 := h0) (h1 := h1) (c := upd (upd c (475 + (nS s) * 2 + 0) (nI (hE s))) (475 + (nS s) * 2 + 1) (me s (hE s) 5)) (k := 4) (v := (nI ((nS s) + 1))) (hk := (by omega)) H.size) (cwV 2 hts gX1_addSeal_X1_setNumber rfl rfl rfl hdX1_setNumber ⟨Nat.le_of_ble_eq_true rfl, Nat.le_of_ble_eq_true rfl⟩) (preVB hK hN hP hD [0, 1] rfl rfl rfl 0 rfl rfl [.int (nI 4), .int (nI ((nS s) + 1))]) rfl rfl hl.1 rfl (lv_room (Nat.le_of_ble_eq_true rfl)) dX1_addSeal_38 ⟨Nat.le_refl _, Nat.le_refl _⟩) hP hD hS hA [0, 1] [] rfl rfl (by decide) (by decide) (fun u38 H locs hw38 hP hD hS => ?_)
  have hP : va_P dg vwCl [(h0, .inr (1, [.ref h1])), (h1, .inl (tq.1, 1473, .inl (upd (upd (upd c (475 + (nS s) * 2 + 0) (nI (hE s))) (475 + (nS s) * 2 + 1) (me s (hE s) 5)) 4 (nI ((nS s) + 1)))))] H := hP
  have hD : va_D AA [(h0, .inr (1, [.ref h1])), (h1, .inl (tq.1, 1473, .inl (upd (upd (upd c (475 + (nS s) * 2 + 0) (nI (hE s))) (475 + (nS s) * 2 + 1) (me s (hE s) 5)) 4 (nI ((nS s) + 1)))))] := hD
  refine lv_iload_n hx hb dX1_addSeal_41 rfl (lv_at hl 0 rfl) ?_
  exact hret (nI (nS s)) (()) H locs _ ls (rfl) rfl (hP.sub [0, 1] rfl) (hD.sub [0, 1] (by decide) rfl) hS dX1_addSeal_42
theorem hdX1_addBranch : yX1_addBranch.cls = RX1 ∧ yX1_addBranch.cls ≠ "java/lang/invoke/MethodHandle" ∧ yX1_addBranch.cls ≠ "java/lang/invoke/VarHandle" ∧ (parseMethodDescriptor yX1_addBranch.desc).map (fun d => d.parameters.length) = some 3 := by decide +kernel
set_option maxHeartbeats 4000000 in
set_option maxRecDepth 100000 in
theorem kX1_addBranch (ln : Launch) (dg : va_G) (tq : ClassId × ClassId) (h0 h1 : Nat) (c : Row) (s : Row) (hR : XR s c) (hW : WF s) (L N F : Nat) (hn : nB s < 10) : MV ln yX1_addBranch wsX1_addBranch (rmm 1 23) dg tq [.ref h0, .int (nI L), .int (nI N), .int (nI F)] [(h0, .inr (1, [.ref h1])), (h1, .inl (tq.1, 1473, .inl c))] (fun (u : Unit) => True) (fun u => [(h0, .inr (1, [.ref h1])), (h1, .inl (tq.1, 1473, .inl (xbranchS s c L N F)))]) := by
  refine MV.enter cX1_addBranch 5 (by decide) rfl rfl (Nat.le_of_ble_eq_true rfl) ?_
  intro pP eE sS mM aA bB mT cC QQ AA hA hAT hret H locs hP hD hS ls hl
  obtain ⟨hx, hb, hml, hown, hts, hK, hN⟩ := hAT
  have hown : sS.vm.findClass RX1 = some mM.cls := hown
  have hl : lv_has ls 5 [(0, .ref h0), (1, .int (nI L)), (2, .int (nI N)), (3, .int (nI F))] := hl
  have hn60 := hW.n60
  have hb10 := hW.b10
  have hs8 := hW.s8
  refine lv_aload_n hx hb dX1_addBranch_0 rfl (lv_at hl 0 rfl) ?_
  refine lv_iconst (v := (nI 3)) hx hb dX1_addBranch_1 (by decide) ?_
  refine call_x (va_runV (As := [.int (nI 3)]) (rest := []) ⟨hx, hb, hml, hown, hts⟩ (kX1_number ln dg tq (h0 := h0) (h1 := h1) (c := c) (k := 3) (hk := (by omega)) H.size) (cwV 1 hts gX1_addBranch_X1_number rfl rfl rfl hdX1_number ⟨Nat.le_of_ble_eq_true rfl, Nat.le_of_ble_eq_true rfl⟩) (preVR hK hN hP [0, 1] rfl 0 rfl rfl [.int (nI 3)]) rfl rfl hl.1 rfl (lv_room (Nat.le_of_ble_eq_true rfl)) dX1_addBranch_2 ⟨Nat.le_refl _, Nat.le_refl _⟩) hP hS hA (fun H locs hP hS => ?_)
  refine r_top (show (c 3) = (nI (nB s)) from hR.bb hW) ?_
  refine lv_istore (lv' := [(4, .int (nI (nB s))), (0, .ref h0), (1, .int (nI L)), (2, .int (nI N)), (3, .int (nI F))]) hx hb dX1_addBranch_5 hl (by decide) rfl (fun ls hl => ?_)
  refine lv_aload_n hx hb dX1_addBranch_7 rfl (lv_at hl 1 rfl) ?_
  refine lv_iload hx hb dX1_addBranch_8 (lv_at hl 0 rfl) ?_
  refine lv_iconst (v := (nI 0)) hx hb dX1_addBranch_10 (by decide) ?_
  refine lv_iload_n hx hb dX1_addBranch_11 rfl (lv_at hl 2 rfl) ?_
  refine call_v (wr := []) (va_runV (As := [.int (nI (nB s)), .int (nI 0), .int (nI L)]) (rest := []) ⟨hx, hb, hml, hown, hts⟩ (kX1_setOfBranch ln dg tq (h0 := h0) (h1 := h1) (c := c) (e := nB s) (f := 0) (v := (nI L)) (he := (by omega)) (hf := (by omega)) H.size) (cwV 3 hts gX1_addBranch_X1_setOfBranch rfl rfl rfl hdX1_setOfBranch ⟨Nat.le_of_ble_eq_true rfl, Nat.le_of_ble_eq_true rfl⟩) (preVB hK hN hP hD [0, 1] rfl rfl rfl 0 rfl rfl [.int (nI (nB s)), .int (nI 0), .int (nI L)]) rfl rfl hl.1 rfl (lv_room (Nat.le_of_ble_eq_true rfl)) dX1_addBranch_12 ⟨Nat.le_refl _, Nat.le_refl _⟩) hP hD hS hA [0, 1] [] rfl rfl (by decide) (by decide) (fun u12 H locs hw12 hP hD hS => ?_)
  have hP : va_P dg vwCl [(h0, .inr (1, [.ref h1])), (h1, .inl (tq.1, 1473, .inl (upd c (425 + (nB s) * 5 + 0) (nI L))))] H := hP
  have hD : va_D AA [(h0, .inr (1, [.ref h1])), (h1, .inl (tq.1, 1473, .inl (upd c (425 + (nB s) * 5 + 0) (nI L))))] := hD
  refine lv_aload_n hx hb dX1_addBranch_15 rfl (lv_at hl 1 rfl) ?_
  refine lv_iload hx hb dX1_addBranch_16 (lv_at hl 0 rfl) ?_
  refine lv_iconst (v := (nI 1)) hx hb dX1_addBranch_18 (by decide) ?_
  refine lv_iload_n hx hb dX1_addBranch_19 rfl (lv_at hl 3 rfl) ?_
  refine call_v (wr := []) (va_runV (As := [.int (nI (nB s)), .int (nI 1), .int (nI N)]) (rest := []) ⟨hx, hb, hml, hown, hts⟩ (kX1_setOfBranch ln dg tq (h0 := h0) (h1 := h1) (c := upd c (425 + (nB s) * 5 + 0) (nI L)) (e := nB s) (f := 1) (v := (nI N)) (he := (by omega)) (hf := (by omega)) H.size) (cwV 3 hts gX1_addBranch_X1_setOfBranch rfl rfl rfl hdX1_setOfBranch ⟨Nat.le_of_ble_eq_true rfl, Nat.le_of_ble_eq_true rfl⟩) (preVB hK hN hP hD [0, 1] rfl rfl rfl 0 rfl rfl [.int (nI (nB s)), .int (nI 1), .int (nI N)]) rfl rfl hl.1 rfl (lv_room (Nat.le_of_ble_eq_true rfl)) dX1_addBranch_20 ⟨Nat.le_refl _, Nat.le_refl _⟩) hP hD hS hA [0, 1] [] rfl rfl (by decide) (by decide) (fun u20 H locs hw20 hP hD hS => ?_)
  have hP : va_P dg vwCl [(h0, .inr (1, [.ref h1])), (h1, .inl (tq.1, 1473, .inl (upd (upd c (425 + (nB s) * 5 + 0) (nI L)) (425 + (nB s) * 5 + 1) (nI N))))] H := hP
  have hD : va_D AA [(h0, .inr (1, [.ref h1])), (h1, .inl (tq.1, 1473, .inl (upd (upd c (425 + (nB s) * 5 + 0) (nI L)) (425 + (nB s) * 5 + 1) (nI N))))] := hD
  refine lv_aload_n hx hb dX1_addBranch_23 rfl (lv_at hl 1 rfl) ?_
  refine lv_iload hx hb dX1_addBranch_24 (lv_at hl 0 rfl) ?_
  refine lv_iconst (v := (nI 2)) hx hb dX1_addBranch_26 (by decide) ?_
  refine lv_iload_n hx hb dX1_addBranch_27 rfl (lv_at hl 4 rfl) ?_
  refine call_v (wr := []) (va_runV (As := [.int (nI (nB s)), .int (nI 2), .int (nI F)]) (rest := []) ⟨hx, hb, hml, hown, hts⟩ (kX1_setOfBranch ln dg tq (h0 := h0) (h1 := h1) (c := upd (upd c (425 + (nB s) * 5 + 0) (nI L)) (425 + (nB s) * 5 + 1) (nI N)) (e := nB s) (f := 2) (v := (nI F)) (he := (by omega)) (hf := (by omega)) H.size) (cwV 3 hts gX1_addBranch_X1_setOfBranch rfl rfl rfl hdX1_setOfBranch ⟨Nat.le_of_ble_eq_true rfl, Nat.le_of_ble_eq_true rfl⟩) (preVB hK hN hP hD [0, 1] rfl rfl rfl 0 rfl rfl [.int (nI (nB s)), .int (nI 2), .int (nI F)]) rfl rfl hl.1 rfl (lv_room (Nat.le_of_ble_eq_true rfl)) dX1_addBranch_28 ⟨Nat.le_refl _, Nat.le_refl _⟩) hP hD hS hA [0, 1] [] rfl rfl (by decide) (by decide) (fun u28 H locs hw28 hP hD hS => ?_)
  have hP : va_P dg vwCl [(h0, .inr (1, [.ref h1])), (h1, .inl (tq.1, 1473, .inl (upd (upd (upd c (425 + (nB s) * 5 + 0) (nI L)) (425 + (nB s) * 5 + 1) (nI N)) (425 + (nB s) * 5 + 2) (nI F))))] H := hP
  have hD : va_D AA [(h0, .inr (1, [.ref h1])), (h1, .inl (tq.1, 1473, .inl (upd (upd (upd c (425 + (nB s) * 5 + 0) (nI L)) (425 + (nB s) * 5 + 1) (nI N)) (425 + (nB s) * 5 + 2) (nI F))))] := hD
  refine lv_aload_n hx hb dX1_addBranch_31 rfl (lv_at hl 1 rfl) ?_
  refine lv_iload hx hb dX1_addBranch_32 (lv_at hl 0 rfl) ?_
  refine lv_iconst (v := (nI 3)) hx hb dX1_addBranch_34 (by decide) ?_
  refine lv_iconst (v := (nI 0)) hx hb dX1_addBranch_35 (by decide) ?_
  refine call_v (wr := []) (va_runV (As := [.int (nI (nB s)), .int (nI 3), .int (nI 0)]) (rest := []) ⟨hx, hb, hml, hown, hts⟩ (kX1_setOfBranch ln dg tq (h0 := h0) (h1 := h1) (c := upd (upd (upd c (425 + (nB s) * 5 + 0) (nI L)) (425 + (nB s) * 5 + 1) (nI N)) (425 + (nB s) * 5 + 2) (nI F)) (e := nB s) (f := 3) (v := (nI 0)) (he := (by omega)) (hf := (by omega)) H.size) (cwV 3 hts gX1_addBranch_X1_setOfBranch rfl rfl rfl hdX1_setOfBranch ⟨Nat.le_of_ble_eq_true rfl, Nat.le_of_ble_eq_true rfl⟩) (preVB hK hN hP hD [0, 1] rfl rfl rfl 0 rfl rfl [.int (nI (nB s)), .int (nI 3), .int (nI 0)]) rfl rfl hl.1 rfl (lv_room (Nat.le_of_ble_eq_true rfl)) dX1_addBranch_36 ⟨Nat.le_refl _, Nat.le_refl _⟩) hP hD hS hA [0, 1] [] rfl rfl (by decide) (by decide) (fun u36 H locs hw36 hP hD hS => ?_)
  have hP : va_P dg vwCl [(h0, .inr (1, [.ref h1])), (h1, .inl (tq.1, 1473, .inl (upd (upd (upd (upd c (425 + (nB s) * 5 + 0) (nI L)) (425 + (nB s) * 5 + 1) (nI N)) (425 + (nB s) * 5 + 2) (nI F)) (425 + (nB s) * 5 + 3) (nI 0))))] H := hP
  have hD : va_D AA [(h0, .inr (1, [.ref h1])), (h1, .inl (tq.1, 1473, .inl (upd (upd (upd (upd c (425 + (nB s) * 5 + 0) (nI L)) (425 + (nB s) * 5 + 1) (nI N)) (425 + (nB s) * 5 + 2) (nI F)) (425 + (nB s) * 5 + 3) (nI 0))))] := hD
  refine lv_aload_n hx hb dX1_addBranch_39 rfl (lv_at hl 1 rfl) ?_
  refine lv_iload hx hb dX1_addBranch_40 (lv_at hl 0 rfl) ?_
  refine lv_iconst (v := (nI 4)) hx hb dX1_addBranch_42 (by decide) ?_
  refine lv_iconst (v := (nI 0)) hx hb dX1_addBranch_43 (by decide) ?_
  refine call_v (wr := []) (va_runV (As := [.int (nI (nB s)), .int (nI 4), .int (nI 0)]) (rest := []) ⟨hx, hb, hml, hown, hts⟩ (kX1_setOfBranch ln dg tq (h0 := h0) (h1 := h1) (c := upd (upd (upd (upd c (425 + (nB s) * 5 + 0) (nI L)) (425 + (nB s) * 5 + 1) (nI N)) (425 + (nB s) * 5 + 2) (nI F)) (425 + (nB s) * 5 + 3) (nI 0)) (e := nB s) (f := 4) (v := (nI 0)) (he := (by omega)) (hf := (by omega)) H.size) (cwV 3 hts gX1_addBranch_X1_setOfBranch rfl rfl rfl hdX1_setOfBranch ⟨Nat.le_of_ble_eq_true rfl, Nat.le_of_ble_eq_true rfl⟩) (preVB hK hN hP hD [0, 1] rfl rfl rfl 0 rfl rfl [.int (nI (nB s)), .int (nI 4), .int (nI 0)]) rfl rfl hl.1 rfl (lv_room (Nat.le_of_ble_eq_true rfl)) dX1_addBranch_44 ⟨Nat.le_refl _, Nat.le_refl _⟩) hP hD hS hA [0, 1] [] rfl rfl (by decide) (by decide) (fun u44 H locs hw44 hP hD hS => ?_)
  have hP : va_P dg vwCl [(h0, .inr (1, [.ref h1])), (h1, .inl (tq.1, 1473, .inl (upd (upd (upd (upd (upd c (425 + (nB s) * 5 + 0) (nI L)) (425 + (nB s) * 5 + 1) (nI N)) (425 + (nB s) * 5 + 2) (nI F)) (425 + (nB s) * 5 + 3) (nI 0)) (425 + (nB s) * 5 + 4) (nI 0))))] H := hP
  have hD : va_D AA [(h0, .inr (1, [.ref h1])), (h1, .inl (tq.1, 1473, .inl (upd (upd (upd (upd (upd c (425 + (nB s) * 5 + 0) (nI L)) (425 + (nB s) * 5 + 1) (nI N)) (425 + (nB s) * 5 + 2) (nI F)) (425 + (nB s) * 5 + 3) (nI 0)) (425 + (nB s) * 5 + 4) (nI 0))))] := hD
  refine lv_aload_n hx hb dX1_addBranch_47 rfl (lv_at hl 1 rfl) ?_
  refine lv_iconst (v := (nI 3)) hx hb dX1_addBranch_48 (by decide) ?_
  refine lv_iload hx hb dX1_addBranch_49 (lv_at hl 0 rfl) ?_
  refine lv_iconst (v := (nI 1)) hx hb dX1_addBranch_51 (by decide) ?_
  refine r_iadd_n hx hb dX1_addBranch_52 ?_
  refine call_v (wr := []) (va_runV (As := [.int (nI 3), .int (nI ((nB s) + 1))]) (rest := []) ⟨hx, hb, hml, hown, hts⟩ (kX1_setNumber ln dg tq (h0 := h0) (h1 := h1) (c := upd (upd (upd (upd (upd c (425 + (nB s) * 5 + 0) (nI L)) (425 + (nB s) * 5 + 1) (nI N)) (425 + (nB s) * 5 + 2) (nI F)) (425 + (nB s) * 5 + 3) (nI 0)) (425 + (nB s) * 5 + 4) (nI 0)) (k := 3) (v := (nI ((nB s) + 1))) (hk := (by omega)) H.size) (cwV 2 hts gX1_addBranch_X1_setNumber rfl rfl rfl hdX1_setNumber ⟨Nat.le_of_ble_eq_true rfl, Nat.le_of_ble_eq_true rfl⟩) (preVB hK hN hP hD [0, 1] rfl rfl rfl 0 rfl rfl [.int (nI 3), .int (nI ((nB s) + 1))]) rfl rfl hl.1 rfl (lv_room (Nat.le_of_ble_eq_true rfl)) dX1_addBranch_53 ⟨Nat.le_refl _, Nat.le_refl _⟩) hP hD hS hA [0, 1] [] rfl rfl (by decide) (by decide) (fun u53 H locs hw53 hP hD hS => ?_)
  have hP : va_P dg vwCl [(h0, .inr (1, [.ref h1])), (h1, .inl (tq.1, 1473, .inl (upd (upd (upd (upd (upd (upd c (425 + (nB s) * 5 + 0) (nI L)) (425 + (nB s) * 5 + 1) (nI N)) (425 + (nB s) * 5 + 2) (nI F)) (425 + (nB s) * 5 + 3) (nI 0)) (425 + (nB s) * 5 + 4) (nI 0)) 3 (nI ((nB s) + 1)))))] H := hP
  have hD : va_D AA [(h0, .inr (1, [.ref h1])), (h1, .inl (tq.1, 1473, .inl (upd (upd (upd (upd (upd (upd c (425 + (nB s) * 5 + 0) (nI L)) (425 + (nB s) * 5 + 1) (nI N)) (425 + (nB s) * 5 + 2) (nI F)) (425 + (nB s) * 5 + 3) (nI 0)) (425 + (nB s) * 5 + 4) (nI 0)) 3 (nI ((nB s) + 1)))))] := hD
  exact hret (()) H locs _ ls (trivial) (hP.sub [0, 1] rfl) (hD.sub [0, 1] (by decide) rfl) hS dX1_addBranch_56
set_option maxHeartbeats 4000000 in
set_option maxRecDepth 100000 in
theorem kX1_isWaiting__p (ln : Launch) (dg : va_G) (tq : ClassId × ClassId) (h0 h1 : Nat) (c : Row) (s : Row) (b : Nat) (hb0 : b < 10) (hst : c (425 + b * 5 + 4) = mb s b 3) : MR ln yX1_isWaiting wsX1_isWaiting (rmm 1 22) dg tq [.ref h0, .int (nI b)] [(h0, .inr (1, [.ref h1])), (h1, .inl (tq.1, 1473, .inl c))] (fun r => r = (bI (waitB s b))) := by
  refine MR.enter cX1_isWaiting 2 .boolean (by decide) rfl rfl (Nat.le_of_ble_eq_true rfl) ?_
  intro pP eE sS mM aA bB mT cC QQ AA hA hAT hret H locs hP hS ls hl
  obtain ⟨hx, hb, hml, hown, hts, hK, hN⟩ := hAT
  have hown : sS.vm.findClass RX1 = some mM.cls := hown
  have hl : lv_has ls 2 [(0, .ref h0), (1, .int (nI b))] := hl
  refine lv_aload_n hx hb dX1_isWaiting_0 rfl (lv_at hl 0 rfl) ?_
  refine lv_iload_n hx hb dX1_isWaiting_1 rfl (lv_at hl 1 rfl) ?_
  refine lv_iconst (v := (nI 4)) hx hb dX1_isWaiting_2 (by decide) ?_
  refine call_x (va_runV (As := [.int (nI b), .int (nI 4)]) (rest := []) ⟨hx, hb, hml, hown, hts⟩ (kX1_ofBranch ln dg tq (h0 := h0) (h1 := h1) (c := c) (e := b) (f := 4) (he := (by omega)) (hf := (by omega)) H.size) (cwV 2 hts gX1_isWaiting_X1_ofBranch rfl rfl rfl hdX1_ofBranch ⟨Nat.le_of_ble_eq_true rfl, Nat.le_of_ble_eq_true rfl⟩) (preVR hK hN hP [0, 1] rfl 0 rfl rfl [.int (nI b), .int (nI 4)]) rfl rfl hl.1 rfl (lv_room (Nat.le_of_ble_eq_true rfl)) dX1_isWaiting_3 ⟨Nat.le_refl _, Nat.le_refl _⟩) hP hS hA (fun H locs hP hS => ?_)
  refine r_top (show (c (425 + b * 5 + 4)) = (mb s b 3) from hst) ?_
  refine r_if_ne (tgt := 13) hx hb rfl dX1_isWaiting_6 (by decide) (fun c6 => ?_) (fun c6 => ?_)
  · skip
    refine lv_iconst (v := (nI 0)) hx hb dX1_isWaiting_13 (by decide) ?_
    exact hret (nI 0) H locs _ ls (by unfold waitB; first | exact (bI_pos (i32_eq (by assumption))).symm | exact (bI_neg (fun z => c6 (by rw [z]; rfl))).symm) rfl hS dX1_isWaiting_14
  · skip
    refine lv_iconst (v := (nI 1)) hx hb dX1_isWaiting_9 (by decide) ?_
    refine lv_goto (tgt := 14) hx hb dX1_isWaiting_10 (by decide) ?_
    exact hret (nI 1) H locs _ ls (by unfold waitB; first | exact (bI_pos (i32_eq (by assumption))).symm | exact (bI_neg (fun z => c6 (by rw [z]; rfl))).symm) rfl hS dX1_isWaiting_14
theorem hdX1_plead : yX1_plead.cls = RX1 ∧ yX1_plead.cls ≠ "java/lang/invoke/MethodHandle" ∧ yX1_plead.cls ≠ "java/lang/invoke/VarHandle" ∧ (parseMethodDescriptor yX1_plead.desc).map (fun d => d.parameters.length) = some 0 := by decide +kernel
set_option maxHeartbeats 4000000 in
set_option maxRecDepth 100000 in
theorem kX1_plead (ln : Launch) (dg : va_G) (tq : ClassId × ClassId) (h0 h1 : Nat) (c : Row) (s : Row) (hR : XR s c) (hW : WF s) : MV ln yX1_plead wsX1_plead (rmm 2 43) dg tq [.ref h0] [(h0, .inr (1, [.ref h1])), (h1, .inl (tq.1, 1473, .inl c))] (fun (u : Unit) => True) (fun u => [(h0, .inr (1, [.ref h1])), (h1, .inl (tq.1, 1473, .inl (xpleadF s c (nB s))))]) := by
  refine MV.enter cX1_plead 2 (by decide) rfl rfl (Nat.le_of_ble_eq_true rfl) ?_
  intro pP eE sS mM aA bB mT cC QQ AA hA hAT hret H locs hP hD hS ls hl
  obtain ⟨hx, hb, hml, hown, hts, hK, hN⟩ := hAT
  have hown : sS.vm.findClass RX1 = some mM.cls := hown
  have hl : lv_has ls 2 [(0, .ref h0)] := hl
  have hn60 := hW.n60
  have hb10 := hW.b10
  have hs8 := hW.s8
  refine lv_iconst (v := (nI 0)) hx hb dX1_plead_0 (by decide) ?_
  refine lv_istore_n (lv' := [(1, .int (nI 0)), (0, .ref h0)]) hx hb dX1_plead_1 rfl hl (by decide) rfl (fun ls hl => ?_)
  have loop2 : ∀ (fu : Nat) (i_ : Nat) (x_ : Row) (H : Heap) (locs : List Loc) (ls : Array Slot), (x_ = xpleadF s c i_ ∧ i_ ≤ nB s) → nB s - i_ < fu → va_P dg vwCl [(h0, .inr (1, [.ref h1])), (h1, .inl (tq.1, 1473, .inl x_))] H → va_D AA [(h0, .inr (1, [.ref h1])), (h1, .inl (tq.1, 1473, .inl x_))] → va_S AA sS.heap H locs → lv_has ls 2 [(0, .ref h0), (1, .int (nI i_))] → W pP ln eE (rmm 2 43) sS mM aA bB mT cC H locs 0 0 QQ (F0 mM 2 ls []) := by
    intro fu
    induction fu with
    | zero => intro i_ x_ H locs ls _ hm; exact absurd hm (Nat.not_lt_zero _)
    | succ fu ih2 =>
      intro i_ x_ H locs ls hinv hm hP hD hS hl
      obtain ⟨hi1, hi2⟩ := hinv
      have hk3 : x_ 3 = nI (nB s) := by rw [hi1, xpleadF_at s c i_ 3 (fun b hb => by omega)]; exact hR.bb hW
      refine lv_iload_n hx hb dX1_plead_2 rfl (lv_at hl 1 rfl) ?_
      refine lv_aload_n hx hb dX1_plead_3 rfl (lv_at hl 0 rfl) ?_
      refine lv_iconst (v := (nI 3)) hx hb dX1_plead_4 (by decide) ?_
      refine call_x (va_runV (As := [.int (nI 3)]) (rest := [.int (nI i_)]) ⟨hx, hb, hml, hown, hts⟩ (kX1_number ln dg tq (h0 := h0) (h1 := h1) (c := x_) (k := 3) (hk := (by omega)) H.size) (cwV 1 hts gX1_plead_X1_number rfl rfl rfl hdX1_number ⟨Nat.le_of_ble_eq_true rfl, Nat.le_of_ble_eq_true rfl⟩) (preVR hK hN hP [0, 1] rfl 0 rfl rfl [.int (nI 3)]) rfl rfl hl.1 rfl (lv_room (Nat.le_of_ble_eq_true rfl)) dX1_plead_5 ⟨Nat.le_refl _, Nat.le_refl _⟩) hP hS hA (fun H locs hP hS => ?_)
      refine r_top (show (x_ 3) = (nI (nB s)) from hk3) ?_
      refine r_icmp_ge (tgt := 39) hx hb (nI_tI (by omega)) (nI_tI (by omega)) dX1_plead_8 (by decide) (fun c8 => ?_) (fun c8 => ?_)
      · skip
        have ew : x_ = (xpleadF s c (nB s)) := by rw [hi1, show i_ = nB s by omega]
        have hP : va_P dg vwCl [(h0, .inr (1, [.ref h1])), (h1, .inl (tq.1, 1473, .inl (xpleadF s c (nB s))))] H := by rw [← ew]; exact hP
        have hD : va_D AA [(h0, .inr (1, [.ref h1])), (h1, .inl (tq.1, 1473, .inl (xpleadF s c (nB s))))] := by rw [← ew]; exact hD
        exact hret (()) H locs _ ls (trivial) (hP.sub [0, 1] rfl) (hD.sub [0, 1] (by decide) rfl) hS dX1_plead_39
      · skip
        refine lv_aload_n hx hb dX1_plead_11 rfl (lv_at hl 0 rfl) ?_
        refine lv_iload_n hx hb dX1_plead_12 rfl (lv_at hl 1 rfl) ?_
        refine call_x (va_runV (As := [.int (nI i_)]) (rest := []) ⟨hx, hb, hml, hown, hts⟩ (kX1_isWaiting__p ln dg tq (h0 := h0) (h1 := h1) (c := x_) (s := s) (b := i_) (hb0 := (by omega)) (hst := (by rw [hi1, xpleadF_at s c i_ _ (fun b hb => by omega)]; exact hR.st (by omega))) H.size) (cwV 1 hts gX1_plead_X1_isWaiting rfl rfl rfl hdX1_isWaiting ⟨Nat.le_of_ble_eq_true rfl, Nat.le_of_ble_eq_true rfl⟩) (preVR hK hN hP [0, 1] rfl 0 rfl rfl [.int (nI i_)]) rfl rfl hl.1 rfl (lv_room (Nat.le_of_ble_eq_true rfl)) dX1_plead_13 ⟨Nat.le_refl _, Nat.le_refl _⟩) hP hS hA (fun H locs hP hS => ?_)
        refine r_if_eq_b (tgt := 33) hx hb dX1_plead_16 (by decide) (fun c16 => ?_) (fun c16 => ?_)
        · skip
          refine lv_iinc (v := (nI (i_ + 1))) (lv' := [(1, .int (nI (i_ + 1))), (0, .ref h0)]) hx hb dX1_plead_33 hl (k := 1) rfl (nI_add _ _) (by decide) rfl (fun ls hl => ?_)
          refine lv_goto (tgt := 2) hx hb dX1_plead_36 (by decide) ?_
          exact ih2 (i_ + 1) x_ H locs ls (⟨by rw [hi1, xpleadF, c16]; rfl, by omega⟩) (by omega) (hP.sub [0, 1] rfl) (hD.sub [0, 1] (by decide) rfl) hS (lv_sub hl [1, 0] rfl)
        · skip
          refine lv_aload_n hx hb dX1_plead_19 rfl (lv_at hl 0 rfl) ?_
          refine lv_iload_n hx hb dX1_plead_20 rfl (lv_at hl 1 rfl) ?_
          refine lv_iconst (v := (nI 3)) hx hb dX1_plead_21 (by decide) ?_
          refine lv_aload_n hx hb dX1_plead_22 rfl (lv_at hl 0 rfl) ?_
          refine lv_iload_n hx hb dX1_plead_23 rfl (lv_at hl 1 rfl) ?_
          refine lv_iconst (v := (nI 3)) hx hb dX1_plead_24 (by decide) ?_
          refine call_x (va_runV (As := [.int (nI i_), .int (nI 3)]) (rest := [.int (nI 3), .int (nI i_), .ref h0]) ⟨hx, hb, hml, hown, hts⟩ (kX1_ofBranch ln dg tq (h0 := h0) (h1 := h1) (c := x_) (e := i_) (f := 3) (he := (by omega)) (hf := (by omega)) H.size) (cwV 2 hts gX1_plead_X1_ofBranch rfl rfl rfl hdX1_ofBranch ⟨Nat.le_of_ble_eq_true rfl, Nat.le_of_ble_eq_true rfl⟩) (preVR hK hN hP [0, 1] rfl 0 rfl rfl [.int (nI i_), .int (nI 3)]) rfl rfl hl.1 rfl (lv_room (Nat.le_of_ble_eq_true rfl)) dX1_plead_25 ⟨Nat.le_refl _, Nat.le_refl _⟩) hP hS hA (fun H locs hP hS => ?_)
          refine r_top (show (x_ (425 + i_ * 5 + 3)) = (mb s i_ 2) from by rw [hi1, xpleadF_pl, if_neg (by omega)]; exact hR.pl (by omega)) ?_
          refine lv_iconst (v := (nI 1)) hx hb dX1_plead_28 (by decide) ?_
          refine lv_iadd hx hb dX1_plead_29 ?_
          refine call_v (wr := []) (va_runV (As := [.int (nI i_), .int (nI 3), .int ((mb s i_ 2) + (nI 1))]) (rest := []) ⟨hx, hb, hml, hown, hts⟩ (kX1_setOfBranch ln dg tq (h0 := h0) (h1 := h1) (c := x_) (e := i_) (f := 3) (v := ((mb s i_ 2) + (nI 1))) (he := (by omega)) (hf := (by omega)) H.size) (cwV 3 hts gX1_plead_X1_setOfBranch rfl rfl rfl hdX1_setOfBranch ⟨Nat.le_of_ble_eq_true rfl, Nat.le_of_ble_eq_true rfl⟩) (preVB hK hN hP hD [0, 1] rfl rfl rfl 0 rfl rfl [.int (nI i_), .int (nI 3), .int ((mb s i_ 2) + (nI 1))]) rfl rfl hl.1 rfl (lv_room (Nat.le_of_ble_eq_true rfl)) dX1_plead_30 ⟨Nat.le_refl _, Nat.le_refl _⟩) hP hD hS hA [0, 1] [] rfl rfl (by decide) (by decide) (fun u30 H locs hw30 hP hD hS => ?_)
          have hP : va_P dg vwCl [(h0, .inr (1, [.ref h1])), (h1, .inl (tq.1, 1473, .inl (upd x_ (425 + i_ * 5 + 3) ((mb s i_ 2) + (nI 1)))))] H := hP
          have hD : va_D AA [(h0, .inr (1, [.ref h1])), (h1, .inl (tq.1, 1473, .inl (upd x_ (425 + i_ * 5 + 3) ((mb s i_ 2) + (nI 1)))))] := hD
          refine lv_iinc (v := (nI (i_ + 1))) (lv' := [(1, .int (nI (i_ + 1))), (0, .ref h0)]) hx hb dX1_plead_33 hl (k := 1) rfl (nI_add _ _) (by decide) rfl (fun ls hl => ?_)
          refine lv_goto (tgt := 2) hx hb dX1_plead_36 (by decide) ?_
          exact ih2 (i_ + 1) (upd x_ (425 + i_ * 5 + 3) ((mb s i_ 2) + (nI 1))) H locs ls (⟨by rw [hi1, xpleadF, c16]; rfl, by omega⟩) (by omega) (hP.sub [0, 1] rfl) (hD.sub [0, 1] (by decide) rfl) hS (lv_sub hl [1, 0] rfl)
  exact loop2 _ 0 c H locs ls (⟨rfl, by omega⟩) (Nat.lt_succ_self _) (hP.sub [0, 1] rfl) (hD.sub [0, 1] (by decide) rfl) hS (lv_sub hl [1, 0] rfl)
theorem hdX1_slotStart : yX1_slotStart.cls = RX1 ∧ yX1_slotStart.cls ≠ "java/lang/invoke/MethodHandle" ∧ yX1_slotStart.cls ≠ "java/lang/invoke/VarHandle" ∧ (parseMethodDescriptor yX1_slotStart.desc).map (fun d => d.parameters.length) = some 1 := by decide +kernel
set_option maxHeartbeats 4000000 in
set_option maxRecDepth 100000 in
theorem kX1_slotStart (ln : Launch) (dg : va_G) (tq : ClassId × ClassId) (j : Nat) : MR ln yX1_slotStart wsX1_slotStart (rmm 0 0) dg tq [.int (nI j)] [] (fun r => r = (nI ((1 + j) * 491))) := by
  refine MR.enter cX1_slotStart 1 .int (by decide) rfl rfl (Nat.le_of_ble_eq_true rfl) ?_
  intro pP eE sS mM aA bB mT cC QQ AA hA hAT hret H locs hP hS ls hl
  obtain ⟨hx, hb, hml, hown, hts, hK, hN⟩ := hAT
  have hown : sS.vm.findClass RX1 = some mM.cls := hown
  have hl : lv_has ls 1 [(0, .int (nI j))] := hl
  refine lv_iconst (v := (nI 1)) hx hb dX1_slotStart_0 (by decide) ?_
  refine lv_iload_n hx hb dX1_slotStart_1 rfl (lv_at hl 0 rfl) ?_
  refine r_iadd_n hx hb dX1_slotStart_2 ?_
  refine lv_sipush (v := (nI 491)) hx hb dX1_slotStart_3 (by decide) ?_
  refine r_imul_n hx hb dX1_slotStart_6 ?_
  exact hret (nI ((1 + j) * 491)) H locs _ ls (rfl) rfl hS dX1_slotStart_7
theorem hdX1_isEmpty : yX1_isEmpty.cls = RX1 ∧ yX1_isEmpty.cls ≠ "java/lang/invoke/MethodHandle" ∧ yX1_isEmpty.cls ≠ "java/lang/invoke/VarHandle" ∧ (parseMethodDescriptor yX1_isEmpty.desc).map (fun d => d.parameters.length) = some 1 := by decide +kernel
set_option maxHeartbeats 4000000 in
set_option maxRecDepth 100000 in
theorem kX1_isEmpty (ln : Launch) (dg : va_G) (tq : ClassId × ClassId) (h0 h1 : Nat) (c : Row) (s : Row) (hF : FS s c) (j : Nat) (hj : j < 2) : MR ln yX1_isEmpty wsX1_isEmpty (rmm 2 42) dg tq [.ref h0, .int (nI j)] [(h0, .inr (1, [.ref h1])), (h1, .inl (tq.1, 1473, .inl c))] (fun r => r = (bI (emptyB s j))) := by
  refine MR.enter cX1_isEmpty 2 .boolean (by decide) rfl rfl (Nat.le_of_ble_eq_true rfl) ?_
  intro pP eE sS mM aA bB mT cC QQ AA hA hAT hret H locs hP hS ls hl
  obtain ⟨hx, hb, hml, hown, hts, hK, hN⟩ := hAT
  have hown : sS.vm.findClass RX1 = some mM.cls := hown
  have hl : lv_has ls 2 [(0, .ref h0), (1, .int (nI j))] := hl
  have in1 : ∀ w ∈ u_ws RX1 TX1 1, w ∈ wsX1_isEmpty := (fun _ h9 => List.mem_cons_of_mem _ (List.mem_append_right _ h9))
  have st_X7_isSlot := hts (.static yX7_isSlot) (List.mem_of_getElem? (i := 2) rfl)
  have iRX7 := hts (.initialized RX7) (List.mem_of_getElem? (i := 3) rfl)
  have f9 := hts (.fieldLink RX1 9 "OrphanChain$Ledger" "cells" "[I") (List.mem_of_getElem? (i := 1) rfl)
  refine lv_iload_n hx hb dX1_isEmpty_0 rfl (lv_at hl 1 rfl) ?_
  refine call_x (va_runSN (As := [.int (nI j)]) (rest := []) ⟨hx, hb, hml, hown, hts⟩ (kX7_isSlot ln dg tq (v := (nI j)) H.size) ⟨va_cnB 1 hts gX1_isEmpty_X7_isSlot_n71 rfl rfl rfl hN.2.1 iRX7 hdX7_isSlot.2 ⟨Nat.le_of_ble_eq_true rfl, Nat.le_of_ble_eq_true rfl⟩, st_X7_isSlot, trivial⟩ (preS0 hK hN [.int (nI j)]) rfl rfl hl.1 rfl (lv_room (Nat.le_of_ble_eq_true rfl)) dX1_isEmpty_1 ⟨Nat.le_refl _, Nat.le_refl _⟩) hP hS hA (fun H locs hP hS => ?_)
  refine r_if_eq_b (tgt := 21) hx hb dX1_isEmpty_4 (by decide) (fun c4 => False.elim (by rw [inR_n (by omega) (by omega) (by omega)] at c4; cases c4)) (fun c4 => ?_)
  refine lv_aload_n hx hb dX1_isEmpty_7 rfl (lv_at hl 0 rfl) ?_
  refine va_get (D := dg) (ci := 1) (v := .ref h1) (C := RX1) (T := TX1) (N := 1) hx hb hts in1 hown hK hP 0 rfl rfl 0 (by decide) f9 (fun _ h9 => h9) rfl dX1_isEmpty_8 ?_
  refine lv_iload_n hx hb dX1_isEmpty_11 rfl (lv_at hl 1 rfl) ?_
  refine call_x (va_runS (As := [.int (nI j)]) (rest := [.ref h1]) ⟨hx, hb, hml, hown, hts⟩ (kX1_slotStart ln dg tq (j := j) H.size) (va_cwS 1 hts gX1_isEmpty_X1_slotStart rfl rfl rfl hdX1_slotStart.2 ⟨Nat.le_of_ble_eq_true rfl, Nat.le_of_ble_eq_true rfl⟩) (preS0 hK hN [.int (nI j)]) rfl rfl hl.1 rfl (lv_room (Nat.le_of_ble_eq_true rfl)) dX1_isEmpty_12 ⟨Nat.le_refl _, Nat.le_refl _⟩) hP hS hA (fun H locs hP hS => ?_)
  refine lv_iconst (v := (nI 0)) hx hb dX1_isEmpty_15 (by decide) ?_
  refine r_iadd_n hx hb dX1_isEmpty_16 ?_
  refine r_iald_n hx hb hK hP 1 rfl (k := (((1 + j) * 491) + 0)) (by omega) (by omega) dX1_isEmpty_17 ?_
  refine r_if_ne (tgt := 25) hx hb rfl dX1_isEmpty_18 (by decide) (fun c18 => ?_) (fun c18 => ?_)
  · skip
    refine lv_iconst (v := (nI 0)) hx hb dX1_isEmpty_25 (by decide) ?_
    exact hret (nI 0) H locs _ ls (by rw [← slot_e (hF.slot hj)]; first | exact (bI_pos (i32_eq (by assumption))).symm | exact (bI_neg (fun z => c18 (by rw [z]; rfl))).symm) rfl hS dX1_isEmpty_26
  · skip
    refine lv_iconst (v := (nI 1)) hx hb dX1_isEmpty_21 (by decide) ?_
    refine lv_goto (tgt := 26) hx hb dX1_isEmpty_22 (by decide) ?_
    exact hret (nI 1) H locs _ ls (by rw [← slot_e (hF.slot hj)]; first | exact (bI_pos (i32_eq (by assumption))).symm | exact (bI_neg (fun z => c18 (by rw [z]; rfl))).symm) rfl hS dX1_isEmpty_26
theorem hdX1_snapshots : yX1_snapshots.cls = RX1 ∧ yX1_snapshots.cls ≠ "java/lang/invoke/MethodHandle" ∧ yX1_snapshots.cls ≠ "java/lang/invoke/VarHandle" ∧ (parseMethodDescriptor yX1_snapshots.desc).map (fun d => d.parameters.length) = some 0 := by decide +kernel
set_option maxHeartbeats 4000000 in
set_option maxRecDepth 100000 in
theorem kX1_snapshots (ln : Launch) (dg : va_G) (tq : ClassId × ClassId) (h0 h1 : Nat) (c : Row) (s : Row) (hF : FS s c) : MR ln yX1_snapshots wsX1_snapshots (rmm 3 63) dg tq [.ref h0] [(h0, .inr (1, [.ref h1])), (h1, .inl (tq.1, 1473, .inl c))] (fun r => r = (s 1443 + s 1444)) := by
  refine MR.enter cX1_snapshots 3 .int (by decide) rfl rfl (Nat.le_of_ble_eq_true rfl) ?_
  intro pP eE sS mM aA bB mT cC QQ AA hA hAT hret H locs hP hS ls hl
  obtain ⟨hx, hb, hml, hown, hts, hK, hN⟩ := hAT
  have hown : sS.vm.findClass RX1 = some mM.cls := hown
  have hl : lv_has ls 3 [(0, .ref h0)] := hl
  refine lv_iconst (v := (nI 0)) hx hb dX1_snapshots_0 (by decide) ?_
  refine lv_istore_n (lv' := [(1, .int (nI 0)), (0, .ref h0)]) hx hb dX1_snapshots_1 rfl hl (by decide) rfl (fun ls hl => ?_)
  refine lv_iconst (v := (nI 0)) hx hb dX1_snapshots_2 (by decide) ?_
  refine lv_istore_n (lv' := [(2, .int (nI 0)), (1, .int (nI 0)), (0, .ref h0)]) hx hb dX1_snapshots_3 rfl hl (by decide) rfl (fun ls hl => ?_)
  have loop4 : ∀ (fu : Nat) (k_ : Nat) (i_ : Nat) (H : Heap) (locs : List Loc) (ls : Array Slot), (k_ = cntF (fun j => !emptyB s j) i_ ∧ i_ ≤ 2) → 2 - i_ < fu → va_P dg vwCl [(h0, .inr (1, [.ref h1])), (h1, .inl (tq.1, 1473, .inl c))] H → va_S AA sS.heap H locs → lv_has ls 3 [(0, .ref h0), (1, .int (nI k_)), (2, .int (nI i_))] → W pP ln eE (rmm 3 63) sS mM aA bB mT cC H locs 0 0 QQ (F0 mM 4 ls []) := by
    intro fu
    induction fu with
    | zero => intro k_ i_ H locs ls _ hm; exact absurd hm (Nat.not_lt_zero _)
    | succ fu ih4 =>
      intro k_ i_ H locs ls hinv hm hP hS hl
      obtain ⟨hi1, hi2⟩ := hinv
      refine lv_iload_n hx hb dX1_snapshots_4 rfl (lv_at hl 2 rfl) ?_
      refine lv_iconst (v := (nI 2)) hx hb dX1_snapshots_5 (by decide) ?_
      refine r_icmp_ge (tgt := 26) hx hb (nI_tI (by omega)) (nI_tI (by omega)) dX1_snapshots_6 (by decide) (fun c6 => ?_) (fun c6 => ?_)
      · skip
        refine lv_iload_n hx hb dX1_snapshots_26 rfl (lv_at hl 1 rfl) ?_
        exact hret (nI k_) H locs _ ls (by rw [hi1, show i_ = 2 by omega]; exact snap_sum hF) rfl hS dX1_snapshots_27
      · skip
        refine lv_aload_n hx hb dX1_snapshots_9 rfl (lv_at hl 0 rfl) ?_
        refine lv_iload_n hx hb dX1_snapshots_10 rfl (lv_at hl 2 rfl) ?_
        refine call_x (va_runV (As := [.int (nI i_)]) (rest := []) ⟨hx, hb, hml, hown, hts⟩ (kX1_isEmpty ln dg tq (h0 := h0) (h1 := h1) (c := c) (s := s) (hF := hF) (j := i_) (hj := (by omega)) H.size) (cwV 1 hts gX1_snapshots_X1_isEmpty rfl rfl rfl hdX1_isEmpty ⟨Nat.le_of_ble_eq_true rfl, Nat.le_of_ble_eq_true rfl⟩) (preVR hK hN hP [0, 1] rfl 0 rfl rfl [.int (nI i_)]) rfl rfl hl.1 rfl (lv_room (Nat.le_of_ble_eq_true rfl)) dX1_snapshots_11 ⟨Nat.le_refl _, Nat.le_refl _⟩) hP hS hA (fun H locs hP hS => ?_)
        refine r_if_ne_b (tgt := 20) hx hb dX1_snapshots_14 (by decide) (fun c14 => ?_) (fun c14 => ?_)
        · skip
          refine lv_iinc (v := (nI (i_ + 1))) (lv' := [(2, .int (nI (i_ + 1))), (0, .ref h0), (1, .int (nI k_))]) hx hb dX1_snapshots_20 hl (k := 2) rfl (nI_add _ _) (by decide) rfl (fun ls hl => ?_)
          refine lv_goto (tgt := 4) hx hb dX1_snapshots_23 (by decide) ?_
          exact ih4 k_ (i_ + 1) H locs ls (⟨by simp [cntF, c14, hi1], by omega⟩) (by omega) (hP.sub [0, 1] rfl) hS (lv_sub hl [1, 2, 0] rfl)
        · skip
          refine lv_iinc (v := (nI (k_ + 1))) (lv' := [(1, .int (nI (k_ + 1))), (0, .ref h0), (2, .int (nI i_))]) hx hb dX1_snapshots_17 hl (k := 1) rfl (nI_add _ _) (by decide) rfl (fun ls hl => ?_)
          refine lv_iinc (v := (nI (i_ + 1))) (lv' := [(2, .int (nI (i_ + 1))), (1, .int (nI (k_ + 1))), (0, .ref h0)]) hx hb dX1_snapshots_20 hl (k := 2) rfl (nI_add _ _) (by decide) rfl (fun ls hl => ?_)
          refine lv_goto (tgt := 4) hx hb dX1_snapshots_23 (by decide) ?_
          exact ih4 (k_ + 1) (i_ + 1) H locs ls (⟨by simp [cntF, c14, hi1], by omega⟩) (by omega) (hP.sub [0, 1] rfl) hS (lv_sub hl [2, 1, 0] rfl)
  exact loop4 _ 0 0 H locs ls (⟨rfl, by omega⟩) (Nat.lt_succ_self _) (hP.sub [0, 1] rfl) hS (lv_sub hl [2, 1, 0] rfl)
theorem hdX1_keepIn : yX1_keepIn.cls = RX1 ∧ yX1_keepIn.cls ≠ "java/lang/invoke/MethodHandle" ∧ yX1_keepIn.cls ≠ "java/lang/invoke/VarHandle" ∧ (parseMethodDescriptor yX1_keepIn.desc).map (fun d => d.parameters.length) = some 1 := by decide +kernel
set_option maxHeartbeats 4000000 in
set_option maxRecDepth 100000 in
theorem kX1_keepIn (ln : Launch) (dg : va_G) (tq : ClassId × ClassId) (h0 h1 : Nat) (c : Row) (s : Row) (hF : FS s c) (j : Nat) (hj : j < 2) : MV ln yX1_keepIn wsX1_keepIn (rmm 2 42) dg tq [.ref h0, .int (nI j)] [(h0, .inr (1, [.ref h1])), (h1, .inl (tq.1, 1473, .inl c))] (fun (u : Unit) => True) (fun u => [(h0, .inr (1, [.ref h1])), (h1, .inl (tq.1, 1473, .inl (va_cpy c c 0 ((1 + j) * 491) 491)))]) := by
  refine MV.enter cX1_keepIn 2 (by decide) rfl rfl (Nat.le_of_ble_eq_true rfl) ?_
  intro pP eE sS mM aA bB mT cC QQ AA hA hAT hret H locs hP hD hS ls hl
  obtain ⟨hx, hb, hml, hown, hts, hK, hN⟩ := hAT
  have hown : sS.vm.findClass RX1 = some mM.cls := hown
  have hl : lv_has ls 2 [(0, .ref h0), (1, .int (nI j))] := hl
  have in1 : ∀ w ∈ u_ws RX1 TX1 1, w ∈ wsX1_keepIn := (fun _ h9 => List.mem_cons_of_mem _ (List.mem_append_right _ h9))
  have st_X7_isSlot := hts (.static yX7_isSlot) (List.mem_of_getElem? (i := 6) rfl)
  have iRX7 := hts (.initialized RX7) (List.mem_of_getElem? (i := 7) rfl)
  have f9 := hts (.fieldLink RX1 9 "OrphanChain$Ledger" "cells" "[I") (List.mem_of_getElem? (i := 1) rfl)
  have k80 := hts (.methodLink RX1 80 arraycopyName) (List.mem_of_getElem? (i := 2) rfl)
  have an := hts (.native arraycopyName) (List.mem_of_getElem? (i := 3) rfl)
  have as := hts (.static arraycopyName) (List.mem_of_getElem? (i := 4) rfl)
  have ai := hts (.initialized "java/lang/System") (List.mem_of_getElem? (i := 5) rfl)
  refine lv_iload_n hx hb dX1_keepIn_0 rfl (lv_at hl 1 rfl) ?_
  refine call_x (va_runSN (As := [.int (nI j)]) (rest := []) ⟨hx, hb, hml, hown, hts⟩ (kX7_isSlot ln dg tq (v := (nI j)) H.size) ⟨va_cnB 1 hts gX1_keepIn_X7_isSlot_n71 rfl rfl rfl hN.2.1 iRX7 hdX7_isSlot.2 ⟨Nat.le_of_ble_eq_true rfl, Nat.le_of_ble_eq_true rfl⟩, st_X7_isSlot, trivial⟩ (preS0 hK hN [.int (nI j)]) rfl rfl hl.1 rfl (lv_room (Nat.le_of_ble_eq_true rfl)) dX1_keepIn_1 ⟨Nat.le_refl _, Nat.le_refl _⟩) hP hS hA (fun H locs hP hS => ?_)
  refine r_if_eq_b (tgt := 26) hx hb dX1_keepIn_4 (by decide) (fun c4 => False.elim (by rw [inR_n (by omega) (by omega) (by omega)] at c4; cases c4)) (fun c4 => ?_)
  refine lv_aload_n hx hb dX1_keepIn_7 rfl (lv_at hl 0 rfl) ?_
  refine va_get (D := dg) (ci := 1) (v := .ref h1) (C := RX1) (T := TX1) (N := 1) hx hb hts in1 hown hK hP 0 rfl rfl 0 (by decide) f9 (fun _ h9 => h9) rfl dX1_keepIn_8 ?_
  refine lv_iconst (v := (nI 0)) hx hb dX1_keepIn_11 (by decide) ?_
  refine lv_aload_n hx hb dX1_keepIn_12 rfl (lv_at hl 0 rfl) ?_
  refine va_get (D := dg) (ci := 1) (v := .ref h1) (C := RX1) (T := TX1) (N := 1) hx hb hts in1 hown hK hP 0 rfl rfl 0 (by decide) f9 (fun _ h9 => h9) rfl dX1_keepIn_13 ?_
  refine lv_iload_n hx hb dX1_keepIn_16 rfl (lv_at hl 1 rfl) ?_
  refine call_x (va_runS (As := [.int (nI j)]) (rest := [.ref h1, .int (nI 0), .ref h1]) ⟨hx, hb, hml, hown, hts⟩ (kX1_slotStart ln dg tq (j := j) H.size) (va_cwS 1 hts gX1_keepIn_X1_slotStart rfl rfl rfl hdX1_slotStart.2 ⟨Nat.le_of_ble_eq_true rfl, Nat.le_of_ble_eq_true rfl⟩) (preS0 hK hN [.int (nI j)]) rfl rfl hl.1 rfl (lv_room (Nat.le_of_ble_eq_true rfl)) dX1_keepIn_17 ⟨Nat.le_refl _, Nat.le_refl _⟩) hP hS hA (fun H locs hP hS => ?_)
  refine lv_sipush (v := (nI 491)) hx hb dX1_keepIn_20 (by decide) ?_
  refine r_copy_n hx hb (hml.trans hl.1.symm) hown k80 an as ai hK hP hD hS 1 1 rfl rfl (sp := 0) (dp := ((1 + j) * 491)) (n := 491) (by omega) (by omega) (by omega) (by omega) (by omega) (Nat.le_of_ble_eq_true rfl) (Nat.le_of_ble_eq_true rfl) dX1_keepIn_23 (fun H locs hP hD hS => ?_)
  have hP : va_P dg vwCl [(h0, .inr (1, [.ref h1])), (h1, .inl (tq.1, 1473, .inl (va_cpy c c 0 ((1 + j) * 491) 491)))] H := hP
  have hD : va_D AA [(h0, .inr (1, [.ref h1])), (h1, .inl (tq.1, 1473, .inl (va_cpy c c 0 ((1 + j) * 491) 491)))] := hD
  exact hret (()) H locs _ ls (trivial) (hP.sub [0, 1] rfl) (hD.sub [0, 1] (by decide) rfl) hS dX1_keepIn_26
theorem hdX1_bringFrom : yX1_bringFrom.cls = RX1 ∧ yX1_bringFrom.cls ≠ "java/lang/invoke/MethodHandle" ∧ yX1_bringFrom.cls ≠ "java/lang/invoke/VarHandle" ∧ (parseMethodDescriptor yX1_bringFrom.desc).map (fun d => d.parameters.length) = some 1 := by decide +kernel
set_option maxHeartbeats 4000000 in
set_option maxRecDepth 100000 in
theorem kX1_bringFrom (ln : Launch) (dg : va_G) (tq : ClassId × ClassId) (h0 h1 : Nat) (c : Row) (s : Row) (hF : FS s c) (j : Nat) (hj : j < 2) (hE : emptyB s j = false) : MV ln yX1_bringFrom wsX1_bringFrom (rmm 3 63) dg tq [.ref h0, .int (nI j)] [(h0, .inr (1, [.ref h1])), (h1, .inl (tq.1, 1473, .inl c))] (fun (u : Unit) => True) (fun u => [(h0, .inr (1, [.ref h1])), (h1, .inl (tq.1, 1473, .inl (va_cpy c c ((1 + j) * 491) 0 491)))]) := by
  refine MV.enter cX1_bringFrom 2 (by decide) rfl rfl (Nat.le_of_ble_eq_true rfl) ?_
  intro pP eE sS mM aA bB mT cC QQ AA hA hAT hret H locs hP hD hS ls hl
  obtain ⟨hx, hb, hml, hown, hts, hK, hN⟩ := hAT
  have hown : sS.vm.findClass RX1 = some mM.cls := hown
  have hl : lv_has ls 2 [(0, .ref h0), (1, .int (nI j))] := hl
  have in1 : ∀ w ∈ u_ws RX1 TX1 1, w ∈ wsX1_bringFrom := (fun _ h9 => List.mem_cons_of_mem _ (List.mem_append_right _ h9))
  have f9 := hts (.fieldLink RX1 9 "OrphanChain$Ledger" "cells" "[I") (List.mem_of_getElem? (i := 1) rfl)
  have k80 := hts (.methodLink RX1 80 arraycopyName) (List.mem_of_getElem? (i := 2) rfl)
  have an := hts (.native arraycopyName) (List.mem_of_getElem? (i := 3) rfl)
  have as := hts (.static arraycopyName) (List.mem_of_getElem? (i := 4) rfl)
  have ai := hts (.initialized "java/lang/System") (List.mem_of_getElem? (i := 5) rfl)
  refine lv_aload_n hx hb dX1_bringFrom_0 rfl (lv_at hl 0 rfl) ?_
  refine lv_iload_n hx hb dX1_bringFrom_1 rfl (lv_at hl 1 rfl) ?_
  refine call_x (va_runV (As := [.int (nI j)]) (rest := []) ⟨hx, hb, hml, hown, hts⟩ (kX1_isEmpty ln dg tq (h0 := h0) (h1 := h1) (c := c) (s := s) (hF := hF) (j := j) (hj := (by omega)) H.size) (cwV 1 hts gX1_bringFrom_X1_isEmpty rfl rfl rfl hdX1_isEmpty ⟨Nat.le_of_ble_eq_true rfl, Nat.le_of_ble_eq_true rfl⟩) (preVR hK hN hP [0, 1] rfl 0 rfl rfl [.int (nI j)]) rfl rfl hl.1 rfl (lv_room (Nat.le_of_ble_eq_true rfl)) dX1_bringFrom_2 ⟨Nat.le_refl _, Nat.le_refl _⟩) hP hS hA (fun H locs hP hS => ?_)
  refine r_if_ne_b (tgt := 27) hx hb dX1_bringFrom_5 (by decide) (fun c5 => False.elim (by rw [hE] at c5; cases c5)) (fun c5 => ?_)
  refine lv_aload_n hx hb dX1_bringFrom_8 rfl (lv_at hl 0 rfl) ?_
  refine va_get (D := dg) (ci := 1) (v := .ref h1) (C := RX1) (T := TX1) (N := 1) hx hb hts in1 hown hK hP 0 rfl rfl 0 (by decide) f9 (fun _ h9 => h9) rfl dX1_bringFrom_9 ?_
  refine lv_iload_n hx hb dX1_bringFrom_12 rfl (lv_at hl 1 rfl) ?_
  refine call_x (va_runS (As := [.int (nI j)]) (rest := [.ref h1]) ⟨hx, hb, hml, hown, hts⟩ (kX1_slotStart ln dg tq (j := j) H.size) (va_cwS 1 hts gX1_bringFrom_X1_slotStart rfl rfl rfl hdX1_slotStart.2 ⟨Nat.le_of_ble_eq_true rfl, Nat.le_of_ble_eq_true rfl⟩) (preS0 hK hN [.int (nI j)]) rfl rfl hl.1 rfl (lv_room (Nat.le_of_ble_eq_true rfl)) dX1_bringFrom_13 ⟨Nat.le_refl _, Nat.le_refl _⟩) hP hS hA (fun H locs hP hS => ?_)
  refine lv_aload_n hx hb dX1_bringFrom_16 rfl (lv_at hl 0 rfl) ?_
  refine va_get (D := dg) (ci := 1) (v := .ref h1) (C := RX1) (T := TX1) (N := 1) hx hb hts in1 hown hK hP 0 rfl rfl 0 (by decide) f9 (fun _ h9 => h9) rfl dX1_bringFrom_17 ?_
  refine lv_iconst (v := (nI 0)) hx hb dX1_bringFrom_20 (by decide) ?_
  refine lv_sipush (v := (nI 491)) hx hb dX1_bringFrom_21 (by decide) ?_
  refine r_copy_n hx hb (hml.trans hl.1.symm) hown k80 an as ai hK hP hD hS 1 1 rfl rfl (sp := ((1 + j) * 491)) (dp := 0) (n := 491) (by omega) (by omega) (by omega) (by omega) (by omega) (Nat.le_of_ble_eq_true rfl) (Nat.le_of_ble_eq_true rfl) dX1_bringFrom_24 (fun H locs hP hD hS => ?_)
  have hP : va_P dg vwCl [(h0, .inr (1, [.ref h1])), (h1, .inl (tq.1, 1473, .inl (va_cpy c c ((1 + j) * 491) 0 491)))] H := hP
  have hD : va_D AA [(h0, .inr (1, [.ref h1])), (h1, .inl (tq.1, 1473, .inl (va_cpy c c ((1 + j) * 491) 0 491)))] := hD
  exact hret (()) H locs _ ls (trivial) (hP.sub [0, 1] rfl) (hD.sub [0, 1] (by decide) rfl) hS dX1_bringFrom_27
theorem hdX1_copyTo : yX1_copyTo.cls = RX1 ∧ yX1_copyTo.cls ≠ "java/lang/invoke/MethodHandle" ∧ yX1_copyTo.cls ≠ "java/lang/invoke/VarHandle" ∧ (parseMethodDescriptor yX1_copyTo.desc).map (fun d => d.parameters.length) = some 2 := by decide +kernel
set_option maxHeartbeats 4000000 in
set_option maxRecDepth 100000 in
theorem kX1_copyTo (ln : Launch) (dg : va_G) (tq : ClassId × ClassId) (h0 h1 t0 : Nat) (c hc : Row) (st : Nat) (hst : st + 1473 ≤ 7365) : MV ln yX1_copyTo wsX1_copyTo (rmm 1 26) dg tq [.ref h0, .ref t0, .int (nI st)] [(h0, .inr (1, [.ref h1])), (h1, .inl (tq.1, 1473, .inl c)), (t0, .inl (tq.1, 7365, .inl hc))] (fun (u : Unit) => True) (fun u => [(h0, .inr (1, [.ref h1])), (h1, .inl (tq.1, 1473, .inl c)), (t0, .inl (tq.1, 7365, .inl (va_cpy c hc 0 st 1473)))]) := by
  refine MV.enter cX1_copyTo 3 (by decide) rfl rfl (Nat.le_of_ble_eq_true rfl) ?_
  intro pP eE sS mM aA bB mT cC QQ AA hA hAT hret H locs hP hD hS ls hl
  obtain ⟨hx, hb, hml, hown, hts, hK, hN⟩ := hAT
  have hown : sS.vm.findClass RX1 = some mM.cls := hown
  have hl : lv_has ls 3 [(0, .ref h0), (1, .ref t0), (2, .int (nI st))] := hl
  have in1 : ∀ w ∈ u_ws RX1 TX1 1, w ∈ wsX1_copyTo := (fun _ h9 => List.mem_cons_of_mem _ (List.mem_append_right _ h9))
  have st_X7_isWithin := hts (.static yX7_isWithin) (List.mem_of_getElem? (i := 6) rfl)
  have iRX7 := hts (.initialized RX7) (List.mem_of_getElem? (i := 7) rfl)
  have f9 := hts (.fieldLink RX1 9 "OrphanChain$Ledger" "cells" "[I") (List.mem_of_getElem? (i := 1) rfl)
  have k80 := hts (.methodLink RX1 80 arraycopyName) (List.mem_of_getElem? (i := 2) rfl)
  have an := hts (.native arraycopyName) (List.mem_of_getElem? (i := 3) rfl)
  have as := hts (.static arraycopyName) (List.mem_of_getElem? (i := 4) rfl)
  have ai := hts (.initialized "java/lang/System") (List.mem_of_getElem? (i := 5) rfl)
  refine lv_iload_n hx hb dX1_copyTo_0 rfl (lv_at hl 2 rfl) ?_
  refine lv_iconst (v := (nI 0)) hx hb dX1_copyTo_1 (by decide) ?_
  refine lv_aload_n hx hb dX1_copyTo_2 rfl (lv_at hl 1 rfl) ?_
  refine va_alen (v := (nI 7365)) hx hb hK hP 2 0 rfl rfl rfl dX1_copyTo_3 ?_
  refine lv_sipush (v := (nI 1473)) hx hb dX1_copyTo_4 (by decide) ?_
  refine r_isub_n hx hb (by omega) dX1_copyTo_7 ?_
  refine call_x (va_runSN (As := [.int (nI st), .int (nI 0), .int (nI (7365 - 1473))]) (rest := []) ⟨hx, hb, hml, hown, hts⟩ (kX7_isWithin ln dg tq (v := (nI st)) (lo := (nI 0)) (hi := (nI (7365 - 1473))) H.size) ⟨va_cnB 3 hts gX1_copyTo_X7_isWithin_n28 rfl rfl rfl hN.1 iRX7 hdX7_isWithin.2 ⟨Nat.le_of_ble_eq_true rfl, Nat.le_of_ble_eq_true rfl⟩, st_X7_isWithin, trivial⟩ (preS0 hK hN [.int (nI st), .int (nI 0), .int (nI (7365 - 1473))]) rfl rfl hl.1 rfl (lv_room (Nat.le_of_ble_eq_true rfl)) dX1_copyTo_8 ⟨Nat.le_refl _, Nat.le_refl _⟩) hP hS hA (fun H locs hP hS => ?_)
  refine r_if_eq_b (tgt := 27) hx hb dX1_copyTo_11 (by decide) (fun c11 => False.elim (by rw [inR_n (by omega) (by omega) (by omega)] at c11; cases c11)) (fun c11 => ?_)
  refine lv_aload_n hx hb dX1_copyTo_14 rfl (lv_at hl 0 rfl) ?_
  refine va_get (D := dg) (ci := 1) (v := .ref h1) (C := RX1) (T := TX1) (N := 1) hx hb hts in1 hown hK hP 0 rfl rfl 0 (by decide) f9 (fun _ h9 => h9) rfl dX1_copyTo_15 ?_
  refine lv_iconst (v := (nI 0)) hx hb dX1_copyTo_18 (by decide) ?_
  refine lv_aload_n hx hb dX1_copyTo_19 rfl (lv_at hl 1 rfl) ?_
  refine lv_iload_n hx hb dX1_copyTo_20 rfl (lv_at hl 2 rfl) ?_
  refine lv_sipush (v := (nI 1473)) hx hb dX1_copyTo_21 (by decide) ?_
  refine r_copy_n hx hb (hml.trans hl.1.symm) hown k80 an as ai hK hP hD hS 1 2 rfl rfl (sp := 0) (dp := st) (n := 1473) (by omega) (by omega) (by omega) (by omega) (by omega) (Nat.le_of_ble_eq_true rfl) (Nat.le_of_ble_eq_true rfl) dX1_copyTo_24 (fun H locs hP hD hS => ?_)
  have hP : va_P dg vwCl [(h0, .inr (1, [.ref h1])), (h1, .inl (tq.1, 1473, .inl c)), (t0, .inl (tq.1, 7365, .inl (va_cpy c hc 0 st 1473)))] H := hP
  have hD : va_D AA [(h0, .inr (1, [.ref h1])), (h1, .inl (tq.1, 1473, .inl c)), (t0, .inl (tq.1, 7365, .inl (va_cpy c hc 0 st 1473)))] := hD
  exact hret (()) H locs _ ls (trivial) (hP.sub [0, 1, 2] rfl) (hD.sub [0, 1, 2] (by decide) rfl) hS dX1_copyTo_27
theorem hdX1_copyFrom : yX1_copyFrom.cls = RX1 ∧ yX1_copyFrom.cls ≠ "java/lang/invoke/MethodHandle" ∧ yX1_copyFrom.cls ≠ "java/lang/invoke/VarHandle" ∧ (parseMethodDescriptor yX1_copyFrom.desc).map (fun d => d.parameters.length) = some 2 := by decide +kernel
set_option maxHeartbeats 4000000 in
set_option maxRecDepth 100000 in
theorem kX1_copyFrom (ln : Launch) (dg : va_G) (tq : ClassId × ClassId) (h0 h1 t0 : Nat) (c hc : Row) (st : Nat) (hst : st + 1473 ≤ 7365) : MV ln yX1_copyFrom wsX1_copyFrom (rmm 1 26) dg tq [.ref h0, .ref t0, .int (nI st)] [(h0, .inr (1, [.ref h1])), (h1, .inl (tq.1, 1473, .inl c)), (t0, .inl (tq.1, 7365, .inl hc))] (fun (u : Unit) => True) (fun u => [(h0, .inr (1, [.ref h1])), (h1, .inl (tq.1, 1473, .inl (va_cpy hc c st 0 1473))), (t0, .inl (tq.1, 7365, .inl hc))]) := by
  refine MV.enter cX1_copyFrom 3 (by decide) rfl rfl (Nat.le_of_ble_eq_true rfl) ?_
  intro pP eE sS mM aA bB mT cC QQ AA hA hAT hret H locs hP hD hS ls hl
  obtain ⟨hx, hb, hml, hown, hts, hK, hN⟩ := hAT
  have hown : sS.vm.findClass RX1 = some mM.cls := hown
  have hl : lv_has ls 3 [(0, .ref h0), (1, .ref t0), (2, .int (nI st))] := hl
  have in1 : ∀ w ∈ u_ws RX1 TX1 1, w ∈ wsX1_copyFrom := (fun _ h9 => List.mem_cons_of_mem _ (List.mem_append_right _ h9))
  have st_X7_isWithin := hts (.static yX7_isWithin) (List.mem_of_getElem? (i := 6) rfl)
  have iRX7 := hts (.initialized RX7) (List.mem_of_getElem? (i := 7) rfl)
  have f9 := hts (.fieldLink RX1 9 "OrphanChain$Ledger" "cells" "[I") (List.mem_of_getElem? (i := 1) rfl)
  have k80 := hts (.methodLink RX1 80 arraycopyName) (List.mem_of_getElem? (i := 2) rfl)
  have an := hts (.native arraycopyName) (List.mem_of_getElem? (i := 3) rfl)
  have as := hts (.static arraycopyName) (List.mem_of_getElem? (i := 4) rfl)
  have ai := hts (.initialized "java/lang/System") (List.mem_of_getElem? (i := 5) rfl)
  refine lv_iload_n hx hb dX1_copyFrom_0 rfl (lv_at hl 2 rfl) ?_
  refine lv_iconst (v := (nI 0)) hx hb dX1_copyFrom_1 (by decide) ?_
  refine lv_aload_n hx hb dX1_copyFrom_2 rfl (lv_at hl 1 rfl) ?_
  refine va_alen (v := (nI 7365)) hx hb hK hP 2 0 rfl rfl rfl dX1_copyFrom_3 ?_
  refine lv_sipush (v := (nI 1473)) hx hb dX1_copyFrom_4 (by decide) ?_
  refine r_isub_n hx hb (by omega) dX1_copyFrom_7 ?_
  refine call_x (va_runSN (As := [.int (nI st), .int (nI 0), .int (nI (7365 - 1473))]) (rest := []) ⟨hx, hb, hml, hown, hts⟩ (kX7_isWithin ln dg tq (v := (nI st)) (lo := (nI 0)) (hi := (nI (7365 - 1473))) H.size) ⟨va_cnB 3 hts gX1_copyFrom_X7_isWithin_n28 rfl rfl rfl hN.1 iRX7 hdX7_isWithin.2 ⟨Nat.le_of_ble_eq_true rfl, Nat.le_of_ble_eq_true rfl⟩, st_X7_isWithin, trivial⟩ (preS0 hK hN [.int (nI st), .int (nI 0), .int (nI (7365 - 1473))]) rfl rfl hl.1 rfl (lv_room (Nat.le_of_ble_eq_true rfl)) dX1_copyFrom_8 ⟨Nat.le_refl _, Nat.le_refl _⟩) hP hS hA (fun H locs hP hS => ?_)
  refine r_if_eq_b (tgt := 27) hx hb dX1_copyFrom_11 (by decide) (fun c11 => False.elim (by rw [inR_n (by omega) (by omega) (by omega)] at c11; cases c11)) (fun c11 => ?_)
  refine lv_aload_n hx hb dX1_copyFrom_14 rfl (lv_at hl 1 rfl) ?_
  refine lv_iload_n hx hb dX1_copyFrom_15 rfl (lv_at hl 2 rfl) ?_
  refine lv_aload_n hx hb dX1_copyFrom_16 rfl (lv_at hl 0 rfl) ?_
  refine va_get (D := dg) (ci := 1) (v := .ref h1) (C := RX1) (T := TX1) (N := 1) hx hb hts in1 hown hK hP 0 rfl rfl 0 (by decide) f9 (fun _ h9 => h9) rfl dX1_copyFrom_17 ?_
  refine lv_iconst (v := (nI 0)) hx hb dX1_copyFrom_20 (by decide) ?_
  refine lv_sipush (v := (nI 1473)) hx hb dX1_copyFrom_21 (by decide) ?_
  refine r_copy_n hx hb (hml.trans hl.1.symm) hown k80 an as ai hK hP hD hS 2 1 rfl rfl (sp := st) (dp := 0) (n := 1473) (by omega) (by omega) (by omega) (by omega) (by omega) (Nat.le_of_ble_eq_true rfl) (Nat.le_of_ble_eq_true rfl) dX1_copyFrom_24 (fun H locs hP hD hS => ?_)
  have hP : va_P dg vwCl [(h0, .inr (1, [.ref h1])), (h1, .inl (tq.1, 1473, .inl (va_cpy hc c st 0 1473))), (t0, .inl (tq.1, 7365, .inl hc))] H := hP
  have hD : va_D AA [(h0, .inr (1, [.ref h1])), (h1, .inl (tq.1, 1473, .inl (va_cpy hc c st 0 1473))), (t0, .inl (tq.1, 7365, .inl hc))] := hD
  exact hret (()) H locs _ ls (trivial) (hP.sub [0, 1, 2] rfl) (hD.sub [0, 1, 2] (by decide) rfl) hS dX1_copyFrom_27
