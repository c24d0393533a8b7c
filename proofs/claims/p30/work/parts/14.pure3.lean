/-! states with the same entries: paths, balances are the same -/
def SE (s s' : Row) : Prop := ∀ e, e < nE s → ∀ j, j < 5 → me s' e j = me s e j
theorem SE.xpa {s s' : Row} (h : SE s s') {e : Nat} (he : e < nE s) : pa s' e = pa s e := by
  show (me s' e 0).toNatClampNeg = (me s e 0).toNatClampNeg
  rw [h e he 0 (by omega)]
theorem SE.xctr {s s' : Row} (h : SE s s') {e : Nat} (he : e < nE s) (a : Nat) : ctr s' e a = ctr s e a := by
  show (if bg s' e = true ∧ a = a2 s' e then am s' e else 0) - (if tk s' e = true ∧ a = a1 s' e then am s' e else 0) = _
  have e1 : bg s' e = bg s e := by unfold bg kd; rw [h e he 1 (by omega)]
  have e2 : tk s' e = tk s e := by unfold tk kd; rw [h e he 1 (by omega)]
  have e3 : a2 s' e = a2 s e := by unfold a2; rw [h e he 3 (by omega)]
  have e4 : a1 s' e = a1 s e := by unfold a1; rw [h e he 2 (by omega)]
  have e5 : am s' e = am s e := by unfold am; rw [h e he 4 (by omega)]
  rw [e1, e2, e3, e4, e5]
  rfl
theorem SE.xtk {s s' : Row} (h : SE s s') {e : Nat} (he : e < nE s) : tk s' e = tk s e := by
  unfold tk kd; rw [h e he 1 (by omega)]
theorem depF_same {s s' : Row} (hW : WF s) (h : SE s s') : ∀ (f e : Nat), e < nE s → depF s' f e = depF s f e := by
  intro f
  induction f with
  | zero => intro e _; rfl
  | succ f ih =>
    intro e he
    rw [depF, depF]
    by_cases e0 : e = 0
    · rw [if_pos e0, if_pos e0]
    · have hp := hW.pl (Nat.pos_of_ne_zero e0) he
      rw [if_neg e0, if_neg e0, h.xpa he, ih _ (by omega)]
theorem dep_same {s s' : Row} (hW : WF s) (h : SE s s') {e : Nat} (he : e < nE s) : dep s' e = dep s e := depF_same hW h e e he
theorem onPF_same {s s' : Row} (hW : WF s) (h : SE s s') : ∀ (f x e : Nat), e < nE s → onPF s' f x e = onPF s f x e := by
  intro f
  induction f with
  | zero => intro x e _; rfl
  | succ f ih =>
    intro x e he
    rw [onPF, onPF]
    by_cases e0 : e ≤ x
    · rw [if_pos e0, if_pos e0]
    · have hp := hW.pl (e := e) (by omega) he
      rw [if_neg e0, if_neg e0, h.xpa he, ih _ _ (by omega)]
theorem onP_same {s s' : Row} (hW : WF s) (h : SE s s') {x e : Nat} (he : e < nE s) : onP s' x e = onP s x e := onPF_same hW h e x e he
theorem balF_same {s s' : Row} (hW : WF s) (h : SE s s') : ∀ (f e a : Nat), e < nE s → balF s' f e a = balF s f e a := by
  intro f
  induction f with
  | zero => intro e a _; rfl
  | succ f ih =>
    intro e a he
    rw [balF, balF]
    by_cases e0 : e = 0
    · rw [if_pos e0, if_pos e0]
    · have hp := hW.pl (Nat.pos_of_ne_zero e0) he
      rw [if_neg e0, if_neg e0, h.xpa he, ih _ _ (by omega), h.xctr he]
theorem bal_same {s s' : Row} (hW : WF s) (h : SE s s') {e : Nat} (he : e < nE s) (a : Nat) : bal s' e a = bal s e a := balF_same hW h e e a he
theorem up_same2 {s s' : Row} (hW : WF s) (h : SE s s') {k e : Nat} (he : e < nE s) (hk : k < dep s e) : up s' e k = up s e k := up_same hW (fun e _ he => h.xpa he) k e he hk
theorem WFe_same {s s' : Row} (h : SE s s') {e : Nat} (he : e < nE s) (hw : WFe s e) : WFe s' e := by
  have p0 := h e he 0 (by omega)
  have p1 := h e he 1 (by omega)
  have p2 := h e he 2 (by omega)
  have p3 := h e he 3 (by omega)
  have p4 := h e he 4 (by omega)
  unfold WFe tk kd pa a1 a2 am at *
  rw [p0, p1, p2, p3, p4]
  exact hw
/-- WF speaks of these cells alone -/
theorem WF_same {s s' : Row} (hW : WF s) (h0 : s' 0 = s 0) (h1 : s' 1 = s 1) (h2 : s' 2 = s 2) (h4 : s' 4 = s 4) (h : SE s s') (hb : ∀ b, b < nB s → mb s' b 0 = mb s b 0 ∧ mb s' b 1 = mb s b 1) (hk : ∀ k, k < nS s → msl s' k 0 = msl s k 0) : WF s' := by
  have e0 : nE s' = nE s := by unfold nE; rw [h0]
  have e1 : hE s' = hE s := by unfold hE; rw [h1]
  have e2 : nB s' = nB s := by unfold nB; rw [h2]
  have e4 : nS s' = nS s := by unfold nS; rw [h4]
  obtain ⟨w1, w2, w3, w4, w5, w6, w7, w8, w9⟩ := hW
  have hW : WF s := ⟨w1, w2, w3, w4, w5, w6, w7, w8, w9⟩
  have hn1 := w1.2.1
  refine ⟨by rw [e0, h0]; exact w1, by rw [e1, h1, e0]; exact w2, by rw [e2, h2]; exact w3, by rw [e4, h4]; exact w4, by rw [h 0 (by omega) 1 (by omega)]; exact w5, fun e he => ?_, fun b hb2 => ?_, fun k hk2 => ?_, fun e he a ha => ?_⟩
  · rw [e0] at he; exact WFe_same h he (w6 e he)
  · rw [e2] at hb2
    obtain ⟨q0, q1⟩ := hb b hb2
    have el : lf s' b = lf s b := by unfold lf; rw [q0]
    have em : mn s' b = mn s b := by unfold mn; rw [q1]
    obtain ⟨b1, b2, b3, b4, b5⟩ := w7 b hb2
    exact ⟨by rw [q0, el]; exact b1, by rw [el, e0]; exact b2, by rw [q1, em]; exact b3, by rw [em]; exact b4, by rw [em, el, dep_same hW h b2]; exact b5⟩
  · rw [e4] at hk2
    have q0 := hk k hk2
    have es : sE s' k = sE s k := by unfold sE; rw [q0]
    obtain ⟨k1, k2⟩ := w8 k hk2
    exact ⟨by rw [q0, es]; exact k1, by rw [es, e0]; exact k2⟩
  · rw [e0] at he; rw [bal_same hW h he]; exact w9 e he a ha
theorem WF_plead {s : Row} (hW : WF s) : WF (plead s) := by
  have A : ∀ i, (∀ b, b < nB s → i ≠ 425 + 4 * b + 2) → plead s i = s i := fun i h => pleadF_at s _ i h
  have h60 := hW.n60
  have h10 := hW.b10
  have h8 := hW.s8
  exact WF_same hW (A _ (fun b _ => by omega)) (A _ (fun b _ => by omega)) (A _ (fun b _ => by omega)) (A _ (fun b _ => by omega)) (fun e he j hj => A _ (fun b _ => by omega)) (fun b hb => ⟨A _ (fun b2 _ => by omega), A _ (fun b2 _ => by omega)⟩) (fun k hk => A _ (fun b _ => by omega))
/-- the new entry's balances -/
theorem SE_put {s : Row} (hn : nE s < 60) {k f t a o : Int32} : SE s (putE s k f t a o) := fun e he j hj => putE_old hn (by omega) (by omega)
theorem WF_put {s : Row} (hW : WF s) (hn : nE s < 60) {k a o : Int32} {f t : Nat} (hf : f < 6) (ht : t < 6) (ha0 : 0 ≤ a.toInt) (ha9 : a.toInt ≤ 999) (hft : (k.toInt = 2 ∨ k.toInt = 3) → f ≠ t) (hok : (k.toInt = 2 ∨ k.toInt = 3) → a.toInt ≤ bal s (hE s) f) : WF (putE s k (nI f) (nI t) a o) := by
  have hSE := SE_put hn (s := s) (k := k) (f := nI f) (t := nI t) (a := a) (o := o)
  obtain ⟨n0, n1, n2, n3, n4, n5, n6⟩ := @putE_new s k (nI f) (nI t) a o
  have hnE := nE_put hn (k := k) (f := nI f) (t := nI t) (a := a) (o := o)
  have hhE := hE_put hn (k := k) (f := nI f) (t := nI t) (a := a) (o := o)
  have hhn := hW.hn
  generalize hs : putE s k (nI f) (nI t) a o = s' at *
  have B : ∀ i, 425 ≤ i → s' i = s i := fun i hi => by rw [← hs]; exact putE_b hn hi
  have I : ∀ i, 2 ≤ i → i < 5 → s' i = s i := fun i h2 h4 => by rw [← hs]; exact putE_i hn h2 h4
  have e2 : nB s' = nB s := by unfold nB; rw [I 2 (by omega) (by omega)]
  have e4 : nS s' = nS s := by unfold nS; rw [I 4 (by omega) (by omega)]
  have hpa : pa s' (nE s) = hE s := by unfold pa; rw [n0]; exact nI_clamp (by omega)
  have h1 : a1 s' (nE s) = f := by unfold a1; rw [n2]; exact nI_clamp (by omega)
  have h2 : a2 s' (nE s) = t := by unfold a2; rw [n3]; exact nI_clamp (by omega)
  have h4 : am s' (nE s) = a.toInt := by unfold am; rw [n4]
  have hk : kd s' (nE s) = k.toInt := by unfold kd; rw [n1]
  have htk : tk s' (nE s) = decide (k.toInt = 2 ∨ k.toInt = 3) := by unfold tk; rw [hk]
  have hWe : ∀ e, e < nE s' → WFe s' e := by
    intro e he
    rw [hnE] at he
    by_cases e0 : e = nE s
    · subst e0
      refine ⟨fun _ => ⟨by rw [n0, hpa], by rw [hpa]; exact hhn⟩, by rw [n2, h1], by rw [h1]; exact hf, by rw [n3, h2], by rw [h2]; exact ht, by rw [h4]; exact ha0, by rw [h4]; exact ha9, fun hz => by rw [h1, h2]; rw [htk] at hz; exact hft (of_decide_eq_true hz)⟩
    · exact WFe_same hSE (by omega) (hW.e (by omega))
  have hbal : ∀ e, e < nE s' → ∀ a', a' < 6 → 0 ≤ bal s' e a' := by
    intro e he a' ha'
    rw [hnE] at he
    by_cases e0 : e = nE s
    · subst e0
      have eb : bal s' (nE s) a' = bal s (hE s) a' + ctr s' (nE s) a' := by
        have hb := bal_same hW hSE hhn a'
        rw [← hb]
        unfold bal
        obtain ⟨j, hj⟩ : ∃ j, nE s = j + 1 := ⟨nE s - 1, by omega⟩
        rw [hj, balF, if_neg (by omega), ← hj, hpa]
        congr 1
        have key : ∀ (f g e : Nat), e < nE s → e ≤ f → e ≤ g → balF s' f e a' = balF s' g e a' := by
          intro f g e he hf hg
          rw [balF_same hW hSE f e a' he, balF_same hW hSE g e a' he]
          exact balF_eq hW f g e a' he hf hg
        exact key _ _ _ hhn (by omega) (Nat.le_refl _)
      rw [eb]
      have hb0 := hW.ok hhn ha'
      unfold ctr
      rw [htk, h1, h2, h4]
      by_cases hz : k.toInt = 2 ∨ k.toInt = 3
      · have g1 := hft hz
        have g2 := hok hz
        rw [decide_eq_true hz]
        by_cases hf' : a' = f
        · subst hf'
          rw [if_neg (fun z => g1 z.2), if_pos ⟨rfl, rfl⟩]
          omega
        · have e2 : (if (true = true ∧ a' = f) then a.toInt else 0) = 0 := if_neg (fun z => hf' z.2)
          rw [e2]
          split <;> omega
      · have e2 : (if (decide (k.toInt = 2 ∨ k.toInt = 3) = true ∧ a' = f) then a.toInt else 0) = 0 := if_neg (fun z => hz (of_decide_eq_true z.1))
        rw [e2]
        split <;> omega
    · rw [bal_same hW hSE (by omega)]; exact hW.ok (by omega) ha'
  refine ⟨⟨by rw [hnE, ← hs, putE_n], by omega, by omega⟩, ⟨by rw [hhE, ← hs, putE_h], by omega⟩, ⟨by rw [e2, I 2 (by omega) (by omega)]; exact hW.b, by rw [e2]; exact hW.b10⟩, ⟨by rw [e4, I 4 (by omega) (by omega)]; exact hW.s, by rw [e4]; exact hW.s8⟩, by rw [hSE 0 (by omega) 1 (by omega)]; exact hW.k0, hWe, fun b hb => ?_, fun j hj => ?_, hbal⟩
  · rw [e2] at hb
    have q0 : mb s' b 0 = mb s b 0 := B _ (by omega)
    have q1 : mb s' b 1 = mb s b 1 := B _ (by omega)
    have el : lf s' b = lf s b := by unfold lf; rw [q0]
    have em : mn s' b = mn s b := by unfold mn; rw [q1]
    obtain ⟨b1, b2, b3, b4, b5⟩ := hW.br hb
    exact ⟨by rw [q0, el]; exact b1, by rw [el, hnE]; omega, by rw [q1, em]; exact b3, by rw [em]; exact b4, by rw [em, el, dep_same hW hSE b2]; exact b5⟩
  · rw [e4] at hj
    have q0 : msl s' j 0 = msl s j 0 := B _ (by omega)
    have es : sE s' j = sE s j := by unfold sE; rw [q0]
    obtain ⟨k1, k2⟩ := hW.se hj
    exact ⟨by rw [q0, es]; exact k1, by rw [es, hnE]; omega⟩
/-! a seal; a branch -/
def sealS (s : Row) : Row := upd (upd (upd s (465 + 2 * nS s + 0) (nI (hE s))) (465 + 2 * nS s + 1) (me s (hE s) 5)) 4 (nI (nS s + 1))
def xsealS (s c : Row) : Row := upd (upd (upd c (475 + nS s * 2 + 0) (nI (hE s))) (475 + nS s * 2 + 1) (me s (hE s) 5)) 4 (nI (nS s + 1))
def branchS (s : Row) (L N : Nat) : Row := upd (upd (upd (upd (upd s (425 + 4 * nB s + 0) (nI L)) (425 + 4 * nB s + 1) (nI N)) (425 + 4 * nB s + 2) (nI 0)) (425 + 4 * nB s + 3) (nI 0)) 2 (nI (nB s + 1))
def xbranchS (s c : Row) (L N F : Nat) : Row := upd (upd (upd (upd (upd (upd c (425 + nB s * 5 + 0) (nI L)) (425 + nB s * 5 + 1) (nI N)) (425 + nB s * 5 + 2) (nI F)) (425 + nB s * 5 + 3) (nI 0)) (425 + nB s * 5 + 4) (nI 0)) 3 (nI (nB s + 1))
theorem KS_seal {s : Row} (hn : nS s < 8) : KS s (sealS s) := by
  unfold sealS
  refine KS.u (KS.u (KS.u (KS.rf s) ?_) ?_) ?_ <;> omega
theorem KX_seal {s c : Row} (hn : nS s < 8) : KX c (xsealS s c) := by
  unfold xsealS
  refine KX.u (KX.u (KX.u (KX.rf c) ?_) ?_) ?_ <;> omega
theorem KS_branch {s : Row} (hn : nB s < 10) {L N : Nat} : KS s (branchS s L N) := by
  unfold branchS
  refine KS.u (KS.u (KS.u (KS.u (KS.u (KS.rf s) ?_) ?_) ?_) ?_) ?_ <;> omega
theorem KX_branch {s c : Row} (hn : nB s < 10) {L N F : Nat} : KX c (xbranchS s c L N F) := by
  unfold xbranchS
  refine KX.u (KX.u (KX.u (KX.u (KX.u (KX.u (KX.rf c) ?_) ?_) ?_) ?_) ?_) ?_ <;> omega
