/-! what each action makes of a state, as the law asks for it -/
theorem fitE_put {s : Row} (hW : WF s) (hn : nE s < 60) {k f t a o : Int32} : fitE (putE s k f t a o) (nE s) = true := by
  obtain ⟨n0, n1, n2, n3, n4, n5, n6⟩ := @putE_new s k f t a o
  have h1 := hW.n1
  have hh := hW.hn
  have hpa : pa (putE s k f t a o) (nE s) = hE s := by unfold pa; rw [n0]; exact nI_clamp (by omega)
  unfold fitE
  refine decide_eq_true ?_
  unfold fit
  rw [if_neg (by omega), hpa, n1, n2, n3, n4, n5, putE_old hn (by omega) (by omega)]
def WRF (s s1 : Row) (r : Int32) (k : Nat) : Prop :=
  nB s1 = nB s ∧ (r.toInt < 0 → nE s1 = nE s ∧ mb s1 0 2 = mb s 0 2 ∧ (0 < cntF (loudB s) (nB s) ∨ nE s = 60 ∨ k = 2 ∨ k = 3)) ∧ (0 ≤ r.toInt → r.toInt = (nE s : Int) ∧ cntF (loudB s) (nB s) = 0 ∧ nE s1 = nE s + 1 ∧ hE s1 = nE s ∧ me s1 (nE s) 0 = nI (hE s) ∧ fitE s1 (nE s) = true ∧ me s1 (nE s) 6 = -100009 ∧ (0 < nB s → mb s1 0 2 = if waitB s 0 = true then mb s 0 2 + nI 1 else mb s 0 2)) ∧ (cntF (loudB s) (nB s) = 0 → nE s < 60 → k = 1 → 0 ≤ r.toInt)
theorem A_wr {s c hc c2 hc2 : Row} {st nx st2 nx2 k f t a : Nat} {r : Int32} (h : LX s c st nx) (hr : r = wrR s k f a) (hact : ACT s c hc st nx (wrO s k f a) (wrS s k f t a) c2 hc2 st2 nx2) : ∃ s1, LX s1 c2 st2 nx2 ∧ WRF s s1 r k := by
  obtain ⟨hF, hX, h5, hn5⟩ := id h
  obtain ⟨hR, hW, -, -⟩ := id hF
  have h60 := hW.n60
  have h10 := hW.b10
  cases hO : wrO s k f a with
  | true =>
    have hO' := hO
    unfold wrO at hO'
    simp only [Bool.and_eq_true, Bool.not_eq_true', decide_eq_false_iff_not, decide_eq_true_eq] at hO'
    obtain ⟨⟨o1, o2⟩, o3⟩ := hO'
    have hr2 : r = nI (nE s) := by
      rw [hr]; unfold wrR
      rw [if_neg (fun z => z.elim (fun z => by omega) (fun z => by rw [o2] at z; cases z)), if_neg o3]
    have hrt : r.toInt = (nE s : Int) := by rw [hr2]; exact nI_tI (by omega)
    have hn' : nE (plead s) < 60 := by rw [nE_plead hW]; omega
    have hWp := WF_plead hW
    have new := @putE_new (plead s) (nI k) (nI f) (nI t) (nI a) (-100009)
    rw [nE_plead hW, hE_plead hW] at new
    refine ⟨wrS s k f t a, ACT_y hO (EX_put hWp (EX_plead hW hX) hn') hact, ?_, fun z => by omega, fun _ => ⟨hrt, o1, ?_, ?_, new.1, ?_, new.2.2.2.2.2.2, fun hb => ?_⟩, fun _ _ _ => by omega⟩
    · exact (show nB (wrS s k f t a) = nB (plead s) from by unfold nB wrS; rw [putE_i hn' (by omega) (by omega)]).trans (nB_plead hW)
    · exact (nE_put hn').trans (by rw [nE_plead hW])
    · exact (hE_put hn').trans (nE_plead hW)
    · have q := fitE_put hWp hn' (k := nI k) (f := nI f) (t := nI t) (a := nI a) (o := -100009)
      rw [nE_plead hW] at q
      exact q
    · have e1 : mb (wrS s k f t a) 0 2 = mb (plead s) 0 2 := putE_b hn' (by omega)
      have e2 : mb (plead s) 0 2 = if 0 < nB s ∧ waitB s 0 = true then mb s 0 2 + nI 1 else mb s 0 2 := pleadF_pl s (nB s) 0
      rw [e1, e2]
      by_cases hw : waitB s 0 = true
      · rw [if_pos ⟨hb, hw⟩, if_pos hw]
      · rw [if_neg (fun z => hw z.2), if_neg hw]
  | false =>
    have hc : (0 < cntF (loudB s) (nB s) ∨ affB s k f a = false) ∨ nE s = 60 := by
      by_cases q1 : 0 < cntF (loudB s) (nB s)
      · exact Or.inl (Or.inl q1)
      · cases q2 : affB s k f a with
        | false => exact Or.inl (Or.inr rfl)
        | true =>
          by_cases q3 : nE s = 60
          · exact Or.inr q3
          · unfold wrO at hO
            rw [decide_eq_true (show cntF (loudB s) (nB s) = 0 by omega), q2, decide_eq_false q3] at hO
            exact absurd hO (by decide)
    have hka : affB s k f a = false → k = 2 ∨ k = 3 := by
      intro q
      unfold affB at q
      by_cases q3 : k = 2 ∨ k = 3
      · exact q3
      · rw [decide_eq_false q3] at q
        simp at q
    have hneg : r.toInt < 0 := by
      rw [hr]; unfold wrR
      rcases hc with h1 | h2
      · rw [if_pos h1]; decide
      · split
        · decide
        · first | decide | (rw [if_pos h2]; decide)
    refine ⟨s, ACT_n hO h hact, rfl, fun _ => ⟨rfl, rfl, ?_⟩, fun z => by omega, fun z1 z2 z3 => ?_⟩
    · rcases hc with (h1 | h1) | h1
      · exact Or.inl h1
      · exact Or.inr (Or.inr (hka h1))
      · exact Or.inr (Or.inl h1)
    · rcases hc with (h1 | h1) | h1
      · omega
      · have := hka h1; omega
      · omega
theorem in_ok {x a b : Nat} (hx : a ≤ x ∧ x ≤ b) (hb : b < 2147483648) : inR (nI x) (nI a) (nI b) = true := by
  rw [inR_d (by omega) (by omega) hb]
  exact decide_eq_true hx
theorem A_dp {s c hc c2 hc2 : Row} {st nx st2 nx2 to am : Nat} {r : Int32} (h : LX s c st nx) (h1 : to ≤ 5) (h2 : 1 ≤ am) (h3 : am ≤ 999) (hr : r = dpR s (nI to) (nI am)) (hact : ACT s c hc st nx (dpO s (nI to) (nI am)) (dpS s (nI to) (nI am)) c2 hc2 st2 nx2) : ∃ s1, LX s1 c2 st2 nx2 ∧ WRF s s1 r 1 := by
  have hp : dpP (nI to) (nI am) = true := by unfold dpP; rw [in_ok (by omega) (by omega), in_ok (by omega) (by omega)]; rfl
  rw [dpR, if_pos hp, cl_n (by omega)] at hr
  rw [dpO, hp, Bool.true_and, cl_n (by omega), dpS, cl_n (by omega), cl_n (by omega)] at hact
  exact A_wr h hr hact
theorem A_fe {s c hc c2 hc2 : Row} {st nx st2 nx2 f am : Nat} {r : Int32} (h : LX s c st nx) (h0 : 1 ≤ f) (h1 : f ≤ 5) (h2 : 1 ≤ am) (h3 : am ≤ 999) (hr : r = feR s (nI f) (nI am)) (hact : ACT s c hc st nx (feO s (nI f) (nI am)) (feS s (nI f) (nI am)) c2 hc2 st2 nx2) : ∃ s1, LX s1 c2 st2 nx2 ∧ WRF s s1 r 3 := by
  have hp : feP (nI f) (nI am) = true := by unfold feP; rw [in_ok (by omega) (by omega), in_ok (by omega) (by omega)]; rfl
  rw [feR, if_pos hp, cl_n (by omega), cl_n (by omega)] at hr
  rw [feO, hp, Bool.true_and, cl_n (by omega), cl_n (by omega), feS, cl_n (by omega), cl_n (by omega)] at hact
  exact A_wr h hr hact
theorem A_nt {s c hc c2 hc2 : Row} {st nx st2 nx2 am : Nat} {r : Int32} (h : LX s c st nx) (h3 : am ≤ 999) (hr : r = ntR s (nI am)) (hact : ACT s c hc st nx (ntO s (nI am)) (ntS s (nI am)) c2 hc2 st2 nx2) : ∃ s1, LX s1 c2 st2 nx2 ∧ WRF s s1 r 4 := by
  have hp : inR (nI am) (nI 0) (nI 999) = true := in_ok (by omega) (by omega)
  rw [ntR, if_pos hp, cl_n (by omega)] at hr
  rw [ntO, hp, Bool.true_and, cl_n (by omega), ntS, cl_n (by omega)] at hact
  exact A_wr h hr hact
theorem A_py {s c hc c2 hc2 : Row} {st nx st2 nx2 f t am : Nat} {r : Int32} (h : LX s c st nx) (h0 : 1 ≤ f) (h1 : f ≤ 5) (h4 : 1 ≤ t) (h5 : t ≤ 5) (hft : f ≠ t) (h2 : 1 ≤ am) (h3 : am ≤ 999) (hr : r = pyR s (nI f) (nI t) (nI am)) (hact : ACT s c hc st nx (pyO s (nI f) (nI t) (nI am)) (pyS s (nI f) (nI t) (nI am)) c2 hc2 st2 nx2) : ∃ s1, LX s1 c2 st2 nx2 ∧ WRF s s1 r 2 := by
  have hne : nI f ≠ nI t := fun z => by
    have q := congrArg Int32.toInt z
    rw [nI_tI (by omega), nI_tI (by omega)] at q
    omega
  have hp : pyP (nI f) (nI t) (nI am) = true := by unfold pyP; rw [in_ok (by omega) (by omega), in_ok (by omega) (by omega), in_ok (by omega) (by omega), decide_eq_false hne]; rfl
  rw [pyR, if_pos hp, cl_n (by omega), cl_n (by omega)] at hr
  rw [pyO, hp, Bool.true_and, cl_n (by omega), cl_n (by omega), pyS, cl_n (by omega), cl_n (by omega), cl_n (by omega)] at hact
  exact A_wr h hr hact
theorem A_gb {s c hc c2 hc2 : Row} {st nx st2 nx2 e : Nat} {r : Int32} (h : LX s c st nx) (he : e < nE s) (hr : r = gbR s (nI e)) (hact : ACT s c hc st nx (gbO s (nI e)) (gbS s (nI e)) c2 hc2 st2 nx2) : ∃ s1, LX s1 c2 st2 nx2 ∧ KS s s1 ∧ r.toInt ≠ -100001 ∧ (onP s e (hE s) = false → r.toInt = -100002) ∧ (onP s e (hE s) = true → (r.toInt = -100003 → nB s = 10) ∧ (r.toInt ≠ -100003 → r.toInt = (nB s : Int) ∧ hE s1 = e)) := by
  obtain ⟨hF, hX, h5, hn5⟩ := id h
  obtain ⟨hR, hW, -, -⟩ := id hF
  have h60 := hW.n60
  have h10 := hW.b10
  have hr2 : r = if onP s e (hE s) = true then (if e ≠ hE s ∧ nB s = 10 then -100003 else nI (nB s)) else -100002 := by
    rw [hr, gbR, if_pos (hasN_n he (by omega)), cl_n (by omega)]
  have hO2 : gbO s (nI e) = gbX s e := by rw [gbO, hasN_n he (by omega), cl_n (by omega), Bool.true_and]
  have hS2 : gbS s (nI e) = if e = hE s then s else upd (branchS s (hE s) (dep s (hE s) - dep s e)) 1 (nI e) := by rw [gbS, cl_n (by omega)]
  by_cases hon : onP s e (hE s) = true
  · rw [if_pos hon] at hr2
    by_cases hfull : e ≠ hE s ∧ nB s = 10
    · rw [if_pos hfull] at hr2
      have hrt : r.toInt = -100003 := by rw [hr2]; decide
      refine ⟨s, ACT_n ?_ h hact, KS.rf s, by omega, fun z => (by rw [hon] at z; cases z), fun _ => ⟨fun _ => hfull.2, fun z => absurd hrt z⟩⟩
      rw [hO2]; unfold gbX
      rw [hon, decide_eq_false hfull.1, decide_eq_true hfull.2]; rfl
    · rw [if_neg hfull] at hr2
      have hrt : r.toInt = (nB s : Int) := by rw [hr2]; exact nI_tI (by omega)
      have hok : gbO s (nI e) = true := by
        rw [hO2]; unfold gbX
        rw [hon, Bool.true_and]
        cases hh : (!decide (e = hE s) && decide (nB s = 10)) with
        | false => rfl
        | true =>
          simp at hh
          exact absurd hh hfull
      have key : EX (gbS s (nI e)) ∧ KS s (gbS s (nI e)) ∧ hE (gbS s (nI e)) = e := by
        rw [hS2]
        by_cases hq : e = hE s
        · rw [if_pos hq]; exact ⟨hX, KS.rf s, hq.symm⟩
        · rw [if_neg hq]
          have hn : nB s < 10 := by
            have : ¬ nB s = 10 := fun z => hfull ⟨hq, z⟩
            omega
          refine ⟨EX_head (EX_branch hW hX hn) _, KS.u (KS_branch hn) (by omega), ?_⟩
          unfold hE
          rw [pk_us]
          exact nI_clamp (by omega)
      exact ⟨gbS s (nI e), ACT_y hok key.1 hact, key.2.1, by omega, fun z => (by rw [hon] at z; cases z), fun _ => ⟨fun z => by omega, fun _ => ⟨hrt, key.2.2⟩⟩⟩
  · rw [if_neg hon] at hr2
    have hrt : r.toInt = -100002 := by rw [hr2]; decide
    have hon2 : onP s e (hE s) = false := by cases q : onP s e (hE s) with
      | false => rfl
      | true => exact absurd q hon
    exact ⟨s, ACT_n (by rw [hO2]; unfold gbX; rw [hon2]; rfl) h hact, KS.rf s, by omega, fun _ => hrt, fun z => absurd z hon⟩
theorem A_pt {s c hc c2 hc2 : Row} {st nx st2 nx2 p : Nat} {r : Int32} (h : LX s c st nx) (h1 : 1 ≤ p) (h2 : p ≤ 30) (hr : r = ptR s (nI p)) (hact : ACT s c hc st nx (ptO (nI p)) (ptS s (nI p)) c2 hc2 st2 nx2) : ∃ s1, LX s1 c2 st2 nx2 ∧ 0 < r.toInt := by
  have hp : inR (nI p) (nI 1) (nI 30) = true := in_ok (by omega) (by omega)
  rw [ptR, if_pos hp] at hr
  have hX := h.2.1
  refine ⟨ptS s (nI p), ACT_y hp (EX_pat hX (by rw [nI_tI (by omega)]; omega)) hact, ?_⟩
  have h4 := hX.2.2.2.1
  rw [hr]; omega
theorem A_ad {s c hc c2 hc2 : Row} {st nx st2 nx2 b : Nat} {r : Int32} (h : LX s c st nx) (hb : b < nB s) (hr : r = adR s (nI b) (nI 1)) (hact : ACT s c hc st nx (adO s (nI b) (nI 1)) (adS s (nI b)) c2 hc2 st2 nx2) : ∃ s1, LX s1 c2 st2 nx2 ∧ r.toInt ≠ -100001 := by
  obtain ⟨hF, hX, h5, hn5⟩ := id h
  obtain ⟨hR, hW, -, -⟩ := id hF
  have h10 := hW.b10
  have h60 := hW.n60
  have hm := hW.mn60 hb
  have hp : adP s (nI b) (nI 1) = true := by unfold adP; rw [hasN_n hb (by omega), in_ok (by omega) (by omega)]; rfl
  have hle : adN s b ≤ mn s b := trN_le _ _ _ _
  have hrt : r.toInt ≠ -100001 := by
    rw [hr, adR, if_pos hp, cl_n (by omega)]
    split
    · split
      · decide
      · rw [nI_tI (by omega)]; omega
    · decide
  cases hO : adO s (nI b) (nI 1) with
  | false => exact ⟨s, ACT_n hO h hact, hrt⟩
  | true =>
    have hO2 := hO
    rw [adO, hp, Bool.true_and, cl_n (by omega), Bool.and_eq_true, Bool.not_eq_true', decide_eq_false_iff_not] at hO2
    obtain ⟨⟨c', w1⟩, w2⟩ := EX_wF hF hX hb (Nat.le_refl (mn s b)) (show nE s + adN s b ≤ 60 by omega)
    refine ⟨adS s (nI b), ACT_y hO ?_ hact, hrt⟩
    unfold adS
    rw [cl_n (by omega)]
    exact EX_st w1.2.1 w2 (by omega) (Or.inr (Or.inl rfl))
theorem A_ds {s c hc c2 hc2 : Row} {st nx st2 nx2 b : Nat} {r : Int32} (h : LX s c st nx) (hb : b < nB s) (hr : r = dsR s (nI b)) (hact : ACT s c hc st nx (dsO s (nI b)) (dsS s (nI b)) c2 hc2 st2 nx2) : ∃ s1, LX s1 c2 st2 nx2 ∧ nB s1 = nB s ∧ (r.toInt < 0 → (waitB s b = false → r.toInt = -100002) ∧ (waitB s b = true → r.toInt = -100003)) ∧ (0 ≤ r.toInt → r.toInt = (nE s : Int) ∧ nE s1 = nE s + 1 ∧ me s1 (nE s) 1 = nI 4 ∧ me s1 (nE s) 4 = nI (lf s b) ∧ lf s1 b = lf s b ∧ mb s1 b 3 = nI 3) := by
  obtain ⟨hF, hX, h5, hn5⟩ := id h
  obtain ⟨hR, hW, -, -⟩ := id hF
  have h10 := hW.b10
  have h60 := hW.n60
  have hr2 : r = if waitB s b = true then (if nE s = 60 then -100003 else nI (nE s)) else -100002 := by
    rw [hr, dsR, if_pos (hasN_n hb (by omega)), cl_n (by omega)]
  have hO2 : dsO s (nI b) = (waitB s b && !decide (nE s = 60)) := by rw [dsO, hasN_n hb (by omega), cl_n (by omega), Bool.true_and]
  by_cases hw : waitB s b = true
  · rw [if_pos hw] at hr2
    by_cases hn : nE s = 60
    · rw [if_pos hn] at hr2
      have hrt : r.toInt = -100003 := by rw [hr2]; decide
      exact ⟨s, ACT_n (by rw [hO2, hw, decide_eq_true hn]; rfl) h hact, rfl, fun _ => ⟨fun z => by (rw [hw] at z; cases z), fun _ => hrt⟩, fun z => by omega⟩
    · rw [if_neg hn] at hr2
      have hrt : r.toInt = (nE s : Int) := by rw [hr2]; exact nI_tI (by omega)
      have A : ∀ i, i ≠ 425 + 4 * b + 3 → upd s (425 + 4 * b + 3) (nI 3) i = s i := fun i q => pk_un q
      have hS : dsS s (nI b) = putE (upd s (425 + 4 * b + 3) (nI 3)) (nI 4) (nI 0) (nI 0) (nI (lf s b)) (-100009) := by rw [dsS, cl_n (by omega)]
      have hW1 := WF_st hW (b0 := b) (by omega) (nI 3)
      have hX1 := EX_st hW hX (b0 := b) (by omega) (v := nI 3) (Or.inr (Or.inr rfl))
      have e0 : nE (upd s (425 + 4 * b + 3) (nI 3)) = nE s := by unfold nE; rw [A 0 (by omega)]
      have hn' : nE (upd s (425 + 4 * b + 3) (nI 3)) < 60 := by omega
      have new := @putE_new (upd s (425 + 4 * b + 3) (nI 3)) (nI 4) (nI 0) (nI 0) (nI (lf s b)) (-100009)
      rw [e0] at new
      refine ⟨dsS s (nI b), ACT_y (by rw [hO2, hw, decide_eq_false hn]; rfl) (by rw [hS]; exact EX_put hW1 hX1 hn') hact, ?_, fun z => by omega, fun _ => ⟨hrt, ?_, ?_, ?_, ?_, ?_⟩⟩
      · rw [hS]; unfold nB; rw [putE_i hn' (by omega) (by omega), A 2 (by omega)]
      · rw [hS]; exact (nE_put hn').trans (by rw [e0])
      · rw [hS]; exact new.2.1
      · rw [hS]; exact new.2.2.2.2.1
      · rw [hS]; unfold lf; rw [show mb (putE (upd s (425 + 4 * b + 3) (nI 3)) (nI 4) (nI 0) (nI 0) (nI (mb s b 0).toNatClampNeg) (-100009)) b 0 = mb s b 0 from (putE_b hn' (by omega)).trans (A _ (by omega))]
      · rw [hS]; exact (putE_b hn' (by omega)).trans pk_us
  · rw [if_neg hw] at hr2
    have hrt : r.toInt = -100002 := by rw [hr2]; decide
    have hw2 : waitB s b = false := by cases q : waitB s b with
      | false => rfl
      | true => exact absurd q hw
    exact ⟨s, ACT_n (by rw [hO2, hw2]; rfl) h hact, rfl, fun _ => ⟨fun _ => hrt, fun z => absurd z hw⟩, fun z => by omega⟩
theorem A_fg {s c hc c2 hc2 : Row} {st nx st2 nx2 e ak : Nat} {r : Int32} (h : LX s c st nx) (h0 : 0 < e) (he : e < nE s) (h1 : 1 ≤ ak) (h9 : ak ≤ 999) (hr : r = fgR s (nI e) (nI ak)) (hact : ACT s c hc st nx (fgO s (nI e) (nI ak)) (fgS s (cl (nI e)) (nI ak)) c2 hc2 st2 nx2) : ∃ s1, LX s1 c2 st2 nx2 ∧ nE s1 = nE s ∧ me s1 e 5 = me s e 5 ∧ (r = me s e 4 → me s1 e 4 = nI ak) ∧ (r ≠ me s e 4 → r.toInt = -100002 ∧ me s1 e 4 = me s e 4) := by
  obtain ⟨hF, hX, h5, hn5⟩ := id h
  obtain ⟨hR, hW, -, -⟩ := id hF
  have h60 := hW.n60
  have hp : fgP s (nI e) (nI ak) = true := by
    unfold fgP
    rw [hasN_n he (by omega), cl_n (by omega), in_ok (by split <;> omega) (by omega), decide_eq_false (show ¬ nI e = nI 0 from fun z => by
      have q := congrArg Int32.toInt z
      rw [nI_tI (by omega), nI_tI (by omega)] at q
      omega)]
    rfl
  rw [fgR, if_pos hp, cl_n (by omega)] at hr
  rw [cl_n (by omega)] at hact
  cases hk : fgOK s e (nI ak) with
  | true =>
    rw [if_pos hk] at hr
    refine ⟨fgS s e (nI ak), ACT_y (by rw [fgO, hp, cl_n (by omega), hk]; rfl) (EX_fg hW hX he _) hact, ?_, pk_un (by omega), fun _ => pk_us, fun z => absurd hr z⟩
    unfold nE fgS; rw [pk_un (by omega)]
  | false =>
    rw [if_neg (by rw [hk]; decide)] at hr
    have hrt : r.toInt = -100002 := by rw [hr]; decide
    have hm : 0 ≤ (me s e 4).toInt := hW.am0 he
    exact ⟨s, ACT_n (by rw [fgO, hp, cl_n (by omega), hk]; rfl) h hact, rfl, rfl, fun z => by (rw [z] at hrt; omega), fun _ => ⟨hrt, rfl⟩⟩
theorem A_fg0 {s c hc c2 hc2 : Row} {st nx st2 nx2 : Nat} {S : Row} {a r : Int32} (h : LX s c st nx) (hr : r = fgR s (nI 0) a) (hact : ACT s c hc st nx (fgO s (nI 0) a) S c2 hc2 st2 nx2) : LX s c2 st2 nx2 ∧ r.toInt = -100001 := by
  have hp : fgP s (nI 0) a = false := by unfold fgP; rw [decide_eq_true rfl]; rfl
  refine ⟨ACT_n (by rw [fgO, hp]; rfl) h hact, ?_⟩
  rw [hr, fgR, if_neg (by rw [hp]; decide)]; decide
theorem A_sl {s c hc c2 hc2 : Row} {st nx st2 nx2 : Nat} {r : Int32} (h : LX s c st nx) (hr : r = slR s) (hact : ACT s c hc st nx (slO s) (sealS s) c2 hc2 st2 nx2) : ∃ s1, LX s1 c2 st2 nx2 ∧ (r.toInt < 0 → nS s1 = 8) := by
  obtain ⟨hF, hX, h5, hn5⟩ := id h
  obtain ⟨hR, hW, -, -⟩ := id hF
  have h8 := hW.s8
  by_cases hn : nS s = 8
  · exact ⟨s, ACT_n (by rw [slO, decide_eq_true hn]; rfl) h hact, fun _ => hn⟩
  · refine ⟨sealS s, ACT_y (by rw [slO, decide_eq_false hn]; rfl) (EX_seal hW hX) hact, fun z => ?_⟩
    rw [hr, slR, if_neg hn, nI_tI (by omega)] at z
    omega
theorem cntF_0 {f : Nat → Bool} : ∀ {n : Nat}, (∀ k, k < n → f k = false) → cntF f n = 0 := by
  intro n
  induction n with
  | zero => intro _; rfl
  | succ n ih => intro h; rw [cntF, ih (fun k hk => h k (by omega)), h n (by omega)]; rfl
theorem cntF_z {f : Nat → Bool} : ∀ {n : Nat}, cntF f n = 0 → ∀ k, k < n → f k = false := by
  intro n
  induction n with
  | zero => intro _ k hk; omega
  | succ n ih =>
    intro h k hk
    rw [cntF] at h
    by_cases e : k = n
    · subst e
      cases q : f k with
      | false => rfl
      | true => rw [q, if_pos rfl] at h; omega
    · exact ih (by omega) k (by omega)
theorem fitE_u {s : Row} {p x : Nat} {v : Int32} (hx : x < p) (hp : 0 < x → pa s x < x) : fitE (upd s (5 + 7 * p + 5) v) x = fitE s x := by
  have A : ∀ i, i ≠ 5 + 7 * p + 5 → upd s (5 + 7 * p + 5) v i = s i := fun i h => pk_un h
  have hpa : pa (upd s (5 + 7 * p + 5) v) x = pa s x := by unfold pa; rw [show me (upd s (5 + 7 * p + 5) v) x 0 = me s x 0 from A _ (by omega)]
  unfold fitE fit
  rw [hpa, show me (upd s (5 + 7 * p + 5) v) x 5 = me s x 5 from A _ (by omega), show me (upd s (5 + 7 * p + 5) v) x 1 = me s x 1 from A _ (by omega), show me (upd s (5 + 7 * p + 5) v) x 2 = me s x 2 from A _ (by omega), show me (upd s (5 + 7 * p + 5) v) x 3 = me s x 3 from A _ (by omega), show me (upd s (5 + 7 * p + 5) v) x 4 = me s x 4 from A _ (by omega)]
  by_cases x0 : x = 0
  · rw [if_pos x0, if_pos x0]
  · have := hp (by omega)
    rw [if_neg x0, if_neg x0, show me (upd s (5 + 7 * p + 5) v) (pa s x) 5 = me s (pa s x) 5 from A _ (by omega)]
theorem fit_us {s : Row} {p : Nat} (hp : 0 < p → pa s p < p) (v : Int32) : fit (upd s (5 + 7 * p + 5) v) p = fit s p := by
  have A : ∀ i, i ≠ 5 + 7 * p + 5 → upd s (5 + 7 * p + 5) v i = s i := fun i h => pk_un h
  have hpa : pa (upd s (5 + 7 * p + 5) v) p = pa s p := by unfold pa; rw [show me (upd s (5 + 7 * p + 5) v) p 0 = me s p 0 from A _ (by omega)]
  unfold fit
  by_cases x0 : p = 0
  · rw [if_pos x0, if_pos x0]
  · have := hp (by omega)
    rw [if_neg x0, if_neg x0, hpa, show me (upd s (5 + 7 * p + 5) v) p 1 = me s p 1 from A _ (by omega), show me (upd s (5 + 7 * p + 5) v) p 2 = me s p 2 from A _ (by omega), show me (upd s (5 + 7 * p + 5) v) p 3 = me s p 3 from A _ (by omega), show me (upd s (5 + 7 * p + 5) v) p 4 = me s p 4 from A _ (by omega), show me (upd s (5 + 7 * p + 5) v) (pa s p) 5 = me s (pa s p) 5 from A _ (by omega)]
theorem fitE_us {s : Row} {p : Nat} (hp : 0 < p → pa s p < p) : fitE (upd s (5 + 7 * p + 5) (fit s p)) p = true := by
  unfold fitE
  rw [fit_us hp]
  exact decide_eq_true pk_us
theorem rl_fit {s : Row} (hW : WF s) (hX : EX s) {e : Nat} : ∀ {j : Nat}, e + j ≤ nE s → ∀ i, i < j → onP s e (e + i) = true → fitE (rlS s e j) (e + i) = true := by
  intro j
  induction j with
  | zero => intro _ i hi; omega
  | succ j ih =>
    intro hj i hi hon
    have ih := ih (by omega)
    obtain ⟨i1, i2, i3, i4⟩ := EX_rl hW hX (e := e) (j := j) (by omega)
    have hpl : ∀ x, x < nE s → 0 < x → pa (rlS s e j) x < x := fun x hx h0 => i2.pl h0 (by omega)
    rw [rlS]
    by_cases hc : onP s e (e + j) = true ∧ fitE (rlS s e j) (e + j) = false
    · rw [if_pos hc]
      by_cases ei : i = j
      · rw [ei]; exact fitE_us (hpl _ (by omega))
      · rw [fitE_u (by omega) (hpl _ (by omega))]; exact ih i (by omega) hon
    · rw [if_neg hc]
      by_cases ei : i = j
      · rw [ei] at hon ⊢
        cases q : fitE (rlS s e j) (e + j) with
        | true => rfl
        | false => exact absurd ⟨hon, q⟩ hc
      · exact ih i (by omega) hon
theorem rlN_le (s : Row) (e : Nat) : ∀ j, rlN s e j ≤ j := by
  intro j
  induction j with
  | zero => exact Nat.le_refl _
  | succ j ih => rw [rlN]; split <;> omega
theorem rl_none {s : Row} {e n : Nat} (h : ∀ k, k < n → fitE s k = true) : ∀ {j : Nat}, e + j ≤ n → rlS s e j = s ∧ rlN s e j = 0 := by
  intro j
  induction j with
  | zero => intro _; exact ⟨rfl, rfl⟩
  | succ j ih =>
    intro hj
    obtain ⟨h1, h2⟩ := ih (by omega)
    have hc : ¬ (onP s e (e + j) = true ∧ fitE (rlS s e j) (e + j) = false) := fun z => by
      have := z.2
      rw [h1, h _ (by omega)] at this
      cases this
    rw [rlS, rlN, if_neg hc, if_neg hc, h1, h2]
    exact ⟨rfl, rfl⟩
theorem A_rk {s c hc c2 hc2 : Row} {st nx st2 nx2 e : Nat} {r : Int32} (h : LX s c st nx) (he : e < nE s) (hr : r = rkR s (nI e)) (hact : ACT s c hc st nx (hasN (nI e) (nE s)) (rkS s (nI e)) c2 hc2 st2 nx2) : ∃ (s1 : Row) (m : Nat), LX s1 c2 st2 nx2 ∧ nE s1 = nE s ∧ r = nI m ∧ m ≤ nE s ∧ fitE s1 e = true ∧ (e = 0 → cntF (fun k => !fitE s1 k) (nE s1) = 0) ∧ (cntF (fun k => !fitE s k) (nE s) = 0 → m = 0) := by
  obtain ⟨hF, hX, h5, hn5⟩ := id h
  obtain ⟨hR, hW, -, -⟩ := id hF
  have h60 := hW.n60
  have hok := hasN_n he (by omega)
  rw [rkR, if_pos hok, cl_n (by omega)] at hr
  have hS : rkS s (nI e) = rlS s e (nE s - e) := by rw [rkS, cl_n (by omega)]
  obtain ⟨i1, i2, i3, i4⟩ := EX_rl hW hX (e := e) (j := nE s - e) (by omega)
  have hle := rlN_le s e (nE s - e)
  have hfit := rl_fit hW hX (e := e) (j := nE s - e) (by omega)
  rw [hS] at hact
  refine ⟨rlS s e (nE s - e), rlN s e (nE s - e), ACT_y hok i1 hact, i3, hr, by omega, ?_, ?_, ?_⟩
  · exact hfit 0 (by omega) (onP_self s e)
  · intro e0
    subst e0
    rw [i3]
    refine cntF_0 (fun k hk => ?_)
    have q := hfit k (by omega) (by rw [Nat.zero_add]; exact onP_0 hW k hk)
    rw [Nat.zero_add] at q
    rw [q]; rfl
  · intro hz
    have hall : ∀ k, k < nE s → fitE s k = true := fun k hk => by
      have q := cntF_z hz k hk
      cases q2 : fitE s k with
      | true => rfl
      | false => rw [q2] at q; cases q
    exact (rl_none hall (e := e) (j := nE s - e) (by omega)).2
theorem L_take {s c hc c2 hc2 : Row} {st nx st2 nx2 : Nat} {r : Int32} (h : LX s c st nx) (hr : r = tkR s (nI 1)) (hact : ACT s c hc st nx (tkO (nI 1)) (tkS s (nI 1)) c2 hc2 st2 nx2) : r = nI (nE s) ∧ LX (tkS s (nI 1)) c2 st2 nx2 ∧ nE (tkS s (nI 1)) = nE s := by
  obtain ⟨hF, hX, h5, hn5⟩ := id h
  obtain ⟨hR, hW, -, -⟩ := id hF
  have hp : inR (nI 1) (nI 0) (nI 1) = true := in_ok (by omega) (by omega)
  refine ⟨by rw [hr, tkR, if_pos hp], ACT_y hp (EX_cong hW hX (fun i hi => tkS_at (by omega) (by omega) (by omega))) hact, ?_⟩
  unfold nE
  rw [tkS_at (by omega) (by omega) (by omega)]
theorem L_restore {s c s3 c3 hc3 c4 hc4 : Row} {st nx st3 nx3 st4 nx4 : Nat} {r : Int32} (h0 : LX s c st nx) (h : LX s3 c3 st3 nx3) (hK : KS (tkS s (nI 1)) s3) (hr : r = rsR s3 (nI 1)) (hact : ACT s3 c3 hc3 st3 nx3 (rsO s3 (nI 1)) (rsS s3 (nI 1)) c4 hc4 st4 nx4) : r = nI (nE s) ∧ LX (rsS s3 (nI 1)) c4 st4 nx4 ∧ hE (rsS s3 (nI 1)) = hE s ∧ hc4 = va_cpy c3 hc3 0 (nx3 * 1473) 1473 ∧ nx4 = (nx3 + 1) % 5 ∧ st4 = recN st3 := by
  obtain ⟨hF, hX, h5, hn5⟩ := id h0
  obtain ⟨hR, hW, -, -⟩ := id hF
  have hp : inR (nI 1) (nI 0) (nI 1) = true := in_ok (by omega) (by omega)
  have hc1 : cl (nI 1) = 1 := cl_n (by omega)
  have h1444 : s3 (1443 + 1) = nI 1 := by
    rw [hK _ (by omega)]
    unfold tkS
    rw [hc1, pk_us]
  have hE1 : emptyB s3 1 = false := by unfold emptyB; rw [h1444]; decide
  have hcell : ∀ i, i < 481 → s3 (481 + 481 * 1 + i) = s i := fun i hi => by
    rw [hK _ (by omega)]
    unfold tkS
    rw [hc1, pk_un (by omega), pk_cpy_in (by omega) (by omega)]
    exact congrArg s (by omega)
  have hnew : ∀ i, i < 481 → rsS s3 (nI 1) i = s i := fun i hi => by
    unfold rsS
    rw [hc1, pk_cpy_in (by omega) (by omega), ← hcell i hi]
    exact congrArg s3 (by omega)
  have hok : rsO s3 (nI 1) = true := by rw [rsO, hp, hc1, hE1]; rfl
  have hact2 := hact
  unfold ACT at hact2
  rw [if_pos hok] at hact2
  refine ⟨?_, ACT_y hok (EX_cong hW hX hnew) hact, ?_, hact2.2.1, hact2.2.2.2, hact2.2.2.1⟩
  · rw [hr, rsR, if_pos hp, hc1, if_neg (by rw [hE1]; decide), ← hW.n]
    exact hcell 0 (by omega)
  · unfold hE; rw [hnew 1 (by omega)]
theorem L_undo {c3 hc3 c4 hc4 c5 : Row} {st3 nx3 st4 nx4 st5 nx5 : Nat} {r : Int32} (h5 : st3 ≤ 5) (hn5 : nx3 < 5) (h1 : hc4 = va_cpy c3 hc3 0 (nx3 * 1473) 1473) (h2 : nx4 = (nx3 + 1) % 5) (h3 : st4 = recN st3) (hr : r = unR st4) (hu : if st4 = 0 then c5 = c4 ∧ st5 = st4 ∧ nx5 = nx4 else c5 = va_cpy hc4 c4 ((nx4 + 5 - 1) % 5 * 1473) 0 1473 ∧ st5 = st4 - 1 ∧ nx5 = (nx4 + 5 - 1) % 5) : 0 ≤ r.toInt ∧ (∀ i, i < 1473 → c5 i = c3 i) ∧ st5 ≤ 5 ∧ nx5 < 5 := by
  have hst : st4 ≠ 0 := by rw [h3]; unfold recN; split <;> omega
  have hle := recN_le st3
  rw [if_neg hst] at hu
  obtain ⟨u1, u2, u3⟩ := hu
  have hnx : (nx4 + 5 - 1) % 5 = nx3 := by omega
  refine ⟨?_, fun i hi => ?_, by omega, by omega⟩
  · rw [hr, unR, if_neg hst, nI_tI (by omega)]; omega
  · rw [u1, hnx, pk_cpy_in (by omega) (by omega), h1, pk_cpy_in (by omega) (by omega)]
    exact congrArg c3 (by omega)
