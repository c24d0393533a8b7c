/-! forging -/
theorem balF_eqp {s : Row} {n : Nat} (h : ∀ e, 0 < e → e < n → pa s e < e) : ∀ (f g e a : Nat), e < n → e ≤ f → e ≤ g → balF s f e a = balF s g e a := by
  intro f
  induction f with
  | zero =>
    intro g e a _ hf _
    have e0 : e = 0 := by omega
    subst e0
    cases g <;> simp [balF]
  | succ f ih =>
    intro g e a hn hf hg
    by_cases e0 : e = 0
    · subst e0
      cases g <;> simp [balF]
    · have hp := h e (Nat.pos_of_ne_zero e0) hn
      cases g with
      | zero => omega
      | succ g => simp only [balF, if_neg e0]; rw [ih g _ _ (by omega) (by omega) (by omega)]
theorem bal_sp {s : Row} {n : Nat} (h : ∀ e, 0 < e → e < n → pa s e < e) {e : Nat} (h0 : 0 < e) (he : e < n) (a : Nat) : bal s e a = bal s (pa s e) a + ctr s e a := by
  have hp := h e h0 he
  unfold bal
  obtain ⟨k, rfl⟩ : ∃ k, e = k + 1 := ⟨e - 1, by omega⟩
  rw [balF, if_neg (by omega), balF_eqp h k (pa s (k + 1)) _ _ (by omega) (by omega) (Nat.le_refl _)]
theorem fgS_me {s : Row} {e x j : Nat} {a : Int32} (h : x ≠ e ∨ j ≠ 4) (hj : j < 7) : me (fgS s e a) x j = me s x j := pk_un (by omega)
theorem fgS_am {s : Row} {e : Nat} {a : Int32} : me (fgS s e a) e 4 = a := pk_us
def dlt (s : Row) (e a : Nat) (m : Int) : Int := (if bg s e = true ∧ a = a2 s e then m else 0) - (if tk s e = true ∧ a = a1 s e then m else 0)
theorem fgS_ctr {s : Row} {e : Nat} {a : Int32} (x acc : Nat) : ctr (fgS s e a) x acc = ctr s x acc + (if x = e then dlt s e acc (a.toInt - am s e) else 0) := by
  have e1 : bg (fgS s e a) x = bg s x := by unfold bg kd; rw [fgS_me (by omega) (by omega)]
  have e2 : tk (fgS s e a) x = tk s x := by unfold tk kd; rw [fgS_me (by omega) (by omega)]
  have e3 : a2 (fgS s e a) x = a2 s x := by unfold a2; rw [fgS_me (by omega) (by omega)]
  have e4 : a1 (fgS s e a) x = a1 s x := by unfold a1; rw [fgS_me (by omega) (by omega)]
  unfold ctr
  rw [e1, e2, e3, e4]
  by_cases hx : x = e
  · subst hx
    have e5 : am (fgS s x a) x = a.toInt := by unfold am; rw [fgS_am]
    rw [e5, if_pos rfl]
    unfold dlt
    split <;> split <;> omega
  · have e5 : am (fgS s e a) x = am s x := by unfold am; rw [fgS_me (by omega) (by omega)]
    rw [e5, if_neg hx]
    omega
theorem fg_bal {s : Row} (hW : WF s) {e : Nat} (he0 : 0 < e) {a : Int32} (acc : Nat) : ∀ x, x < nE s → bal (fgS s e a) x acc = bal s x acc + (if onP s e x = true then dlt s e acc (a.toInt - am s e) else 0) := by
  intro x
  induction x using Nat.strongRecOn with
  | ind x ih =>
    intro hx
    by_cases x0 : x = 0
    · subst x0
      rw [bal_0, bal_0, onP_lt he0, if_neg (by decide)]; rfl
    · have hp := hW.pl (Nat.pos_of_ne_zero x0) hx
      have hpa : ∀ y, pa (fgS s e a) y = pa s y := fun y => by unfold pa; rw [fgS_me (by omega) (by omega)]
      rw [bal_sp (n := nE s) (fun y h0 hy => by rw [hpa]; exact hW.pl h0 hy) (Nat.pos_of_ne_zero x0) hx, hpa, ih _ hp (by omega), fgS_ctr, bal_s hW (Nat.pos_of_ne_zero x0) hx]
      by_cases hxe : x = e
      · subst hxe
        rw [if_pos rfl, onP_self, if_pos rfl, onP_lt hp, if_neg (by decide)]
        omega
      · rw [if_neg hxe]
        by_cases hlt : x < e
        · rw [onP_lt hlt, onP_lt (by omega), if_neg (by decide)]
          omega
        · rw [← onP_s hW (by omega) hx]
          omega
def chkB (s : Row) (e : Nat) (m : Int) (x : Nat) : Bool := (!bg s e || decide (0 ≤ bal s x (a2 s e) + m)) && (!tk s e || decide (0 ≤ bal s x (a1 s e) - m))
theorem allF_iff {f : Nat → Bool} : ∀ {r i : Nat}, allF f i r = true ↔ ∀ k, i ≤ k → k < i + r → f k = true := by
  intro r
  induction r with
  | zero => intro i; exact ⟨fun _ k h1 h2 => absurd h1 (by omega), fun _ => rfl⟩
  | succ r ih =>
    intro i
    rw [allF, Bool.and_eq_true, ih]
    constructor
    · intro h k h1 h2
      by_cases e : k = i
      · rw [e]; exact h.1
      · exact h.2 k (by omega) (by omega)
    · intro h
      exact ⟨h i (by omega) (by omega), fun k h1 h2 => h k (by omega) (by omega)⟩
theorem highB_iff {s : Row} {x : Nat} : highB s x = true ↔ ∀ a, a < 6 → 0 ≤ bal s x a := by
  unfold highB
  rw [allF_iff]
  constructor
  · intro h a ha
    exact of_decide_eq_true (h a (by omega) (by omega))
  · intro h k _ hk
    exact decide_eq_true (h k (by omega))
theorem chk_high {s : Row} (hW : WF s) {e : Nat} (he0 : 0 < e) (he : e < nE s) {a : Int32} {x : Nat} (hx : x < nE s) : highB (fgS s e a) x = (!onP s e x || chkB s e (a.toInt - am s e) x) := by
  have h1l := hW.a1l he
  have h2l := hW.a2l he
  have h12 := fun h => hW.a12 he h
  cases hon : onP s e x with
  | false =>
    have : highB (fgS s e a) x = true := highB_iff.mpr (fun acc hacc => by
      rw [fg_bal hW he0 acc x hx, hon, if_neg (by decide)]
      have := hW.ok hx hacc
      omega)
    rw [this]; rfl
  | true =>
    generalize hm : a.toInt - am s e = m
    have key : highB (fgS s e a) x = true ↔ chkB s e m x = true := by
      rw [highB_iff]
      unfold chkB
      simp only [Bool.and_eq_true, Bool.or_eq_true, Bool.not_eq_true', decide_eq_true_eq]
      constructor
      · intro h
        have g1 := h _ h1l
        have g2 := h _ h2l
        rw [fg_bal hW he0 _ x hx, hon, if_pos rfl, hm] at g1 g2
        unfold dlt at g1 g2
        refine ⟨?_, ?_⟩
        · cases hb : bg s e with
          | false => exact Or.inl rfl
          | true =>
            right
            cases ht : tk s e with
            | false =>
              have e4 : (if false = true ∧ a2 s e = a1 s e then m else 0) = 0 := if_neg (fun z => by cases z.1)
              rw [hb, ht, e4, if_pos ⟨rfl, rfl⟩] at g2
              omega
            | true =>
              have e4 : (if true = true ∧ a2 s e = a1 s e then m else 0) = 0 := if_neg (fun z => h12 ht z.2.symm)
              rw [hb, ht, e4, if_pos ⟨rfl, rfl⟩] at g2
              omega
        · cases ht : tk s e with
          | false => exact Or.inl rfl
          | true =>
            right
            have e4 : (if bg s e = true ∧ a1 s e = a2 s e then m else 0) = 0 := if_neg (fun z => h12 ht z.2)
            rw [ht, e4, if_pos ⟨rfl, rfl⟩] at g1
            omega
      · intro h acc hacc
        rw [fg_bal hW he0 _ x hx, hon, if_pos rfl, hm]
        have g0 := hW.ok hx hacc
        unfold dlt
        by_cases c2 : bg s e = true ∧ acc = a2 s e
        · have hb := h.1.resolve_left (by rw [c2.1]; decide)
          rw [if_pos c2]
          have e4 : (if tk s e = true ∧ acc = a1 s e then m else 0) = 0 := if_neg (fun z => h12 z.1 (by rw [← z.2, c2.2]))
          rw [e4, c2.2]
          omega
        · rw [if_neg c2]
          by_cases c1 : tk s e = true ∧ acc = a1 s e
          · have hb := h.2.resolve_left (by rw [c1.1]; decide)
            rw [if_pos c1, c1.2]
            omega
          · rw [if_neg c1]; omega
    cases h1 : highB (fgS s e a) x with
    | true => rw [key.mp h1]; rfl
    | false =>
      cases h2 : chkB s e m x with
      | false => rfl
      | true => rw [key.mpr h2] at h1; cases h1
theorem allF_cong {f g : Nat → Bool} : ∀ {r i : Nat}, (∀ k, i ≤ k → k < i + r → f k = g k) → allF f i r = allF g i r := by
  intro r
  induction r with
  | zero => intro i _; rfl
  | succ r ih => intro i h; rw [allF, allF, h i (by omega) (by omega), ih (fun k h1 h2 => h k (by omega) (by omega))]
theorem allF_skip {f : Nat → Bool} : ∀ {j r i : Nat}, (∀ k, i ≤ k → k < i + j → f k = true) → allF f i (j + r) = allF f (i + j) r := by
  intro j
  induction j with
  | zero => intro r i _; rw [Nat.zero_add]; rfl
  | succ j ih =>
    intro r i h
    rw [show j + 1 + r = (j + r) + 1 by omega, allF, h i (by omega) (by omega), Bool.true_and, ih (fun k h1 h2 => h k (by omega) (by omega))]
    congr 1; omega
theorem fgOK_eq {s : Row} (hW : WF s) {e : Nat} (he0 : 0 < e) (he : e < nE s) (a : Int32) : fgOK s e a = allF (fun x => !onP s e x || chkB s e (a.toInt - am s e) x) e (nE s - e) := by
  unfold fgOK
  rw [allF_cong (fun k _ hk => chk_high hW he0 he (by omega))]
  have h := allF_skip (f := fun x => !onP s e x || chkB s e (a.toInt - am s e) x) (j := e) (r := nE s - e) (i := 0) (fun k _ hk => by
    show (!onP s e k || _) = true
    rw [onP_lt (by omega)]; rfl)
  rw [show e + (nE s - e) = nE s by omega, Nat.zero_add] at h
  exact h
theorem WF_fg {s : Row} (hW : WF s) {e : Nat} (he0 : 0 < e) (he : e < nE s) {a : Int32} (h0 : 0 ≤ a.toInt) (h9 : a.toInt ≤ 999) (hok : fgOK s e a = true) : WF (fgS s e a) := by
  have hb10 := hW.b10
  have hn60 := hW.n60
  have hs8 := hW.s8
  have A : ∀ i, i ≠ 5 + 7 * e + 4 → fgS s e a i = s i := fun i h => pk_un h
  have e0 : nE (fgS s e a) = nE s := by unfold nE; rw [A 0 (by omega)]
  have e1 : hE (fgS s e a) = hE s := by unfold hE; rw [A 1 (by omega)]
  have e2 : nB (fgS s e a) = nB s := by unfold nB; rw [A 2 (by omega)]
  have e4 : nS (fgS s e a) = nS s := by unfold nS; rw [A 4 (by omega)]
  have hpa : ∀ y, pa (fgS s e a) y = pa s y := fun y => by unfold pa; rw [fgS_me (by omega) (by omega)]
  have hdep : ∀ (f y : Nat), depF (fgS s e a) f y = depF s f y := by
    intro f
    induction f with
    | zero => intro y; rfl
    | succ f ih => intro y; rw [depF, depF, hpa, ih]
  refine ⟨⟨by rw [e0, A 0 (by omega)]; exact hW.n, by rw [e0]; exact hW.n1, by rw [e0]; exact hn60⟩, ⟨by rw [e1, A 1 (by omega)]; exact hW.h, by rw [e1, e0]; exact hW.hn⟩, ⟨by rw [e2, A 2 (by omega)]; exact hW.b, by rw [e2]; exact hb10⟩, ⟨by rw [e4, A 4 (by omega)]; exact hW.s, by rw [e4]; exact hs8⟩, by rw [fgS_me (by omega) (by omega)]; exact hW.k0, fun x hx => ?_, fun b hb => ?_, fun k hk => ?_, fun x hx acc hacc => ?_⟩
  · rw [e0] at hx
    obtain ⟨w1, w2, w3, w4, w5, w6, w7, w8⟩ := hW.e hx
    have q1 : a1 (fgS s e a) x = a1 s x := by unfold a1; rw [fgS_me (by omega) (by omega)]
    have q2 : a2 (fgS s e a) x = a2 s x := by unfold a2; rw [fgS_me (by omega) (by omega)]
    have q3 : tk (fgS s e a) x = tk s x := by unfold tk kd; rw [fgS_me (by omega) (by omega)]
    refine ⟨fun h => ⟨by rw [fgS_me (by omega) (by omega), hpa]; exact (w1 h).1, by rw [hpa]; exact (w1 h).2⟩, by rw [fgS_me (by omega) (by omega), q1]; exact w2, by rw [q1]; exact w3, by rw [fgS_me (by omega) (by omega), q2]; exact w4, by rw [q2]; exact w5, ?_, ?_, by rw [q1, q2, q3]; exact w8⟩
    · by_cases hxe : x = e
      · subst hxe; unfold am; rw [fgS_am]; exact h0
      · unfold am; rw [fgS_me (by omega) (by omega)]; exact w6
    · by_cases hxe : x = e
      · subst hxe; unfold am; rw [fgS_am]; exact h9
      · unfold am; rw [fgS_me (by omega) (by omega)]; exact w7
  · rw [e2] at hb
    have q0 : mb (fgS s e a) b 0 = mb s b 0 := A _ (by omega)
    have q1 : mb (fgS s e a) b 1 = mb s b 1 := A _ (by omega)
    have el : lf (fgS s e a) b = lf s b := by unfold lf; rw [q0]
    have em : mn (fgS s e a) b = mn s b := by unfold mn; rw [q1]
    obtain ⟨b1, b2, b3, b4, b5⟩ := hW.br hb
    exact ⟨by rw [q0, el]; exact b1, by rw [el, e0]; exact b2, by rw [q1, em]; exact b3, by rw [em]; exact b4, by rw [em, el]; unfold dep; rw [hdep]; exact b5⟩
  · rw [e4] at hk
    have q0 : msl (fgS s e a) k 0 = msl s k 0 := A _ (by omega)
    have es : sE (fgS s e a) k = sE s k := by unfold sE; rw [q0]
    obtain ⟨k1, k2⟩ := hW.se hk
    exact ⟨by rw [q0, es]; exact k1, by rw [es, e0]; exact k2⟩
  · rw [e0] at hx
    unfold fgOK at hok
    exact highB_iff.mp (allF_iff.mp hok x (by omega) (by omega)) acc hacc
theorem FS_fg {s c : Row} (hF : FS s c) {e : Nat} (he0 : 0 < e) (he : e < nE s) {a : Int32} (h0 : 0 ≤ a.toInt) (h9 : a.toInt ≤ 999) (hok : fgOK s e a = true) : FS (fgS s e a) (upd c (5 + e * 7 + 3) a) := by
  obtain ⟨hR, hW, -, -⟩ := id hF
  have hn60 := hW.n60
  exact hF.keep (KS.u (KS.rf s) (by omega)) (KX.u (KX.rf c) (by omega)) (XR_am hR hW (by omega) a) (WF_fg hW he0 he h0 h9 hok)
/-! linking anew -/
theorem rl_inv {s c : Row} (hF : FS s c) {e : Nat} : ∀ {j : Nat}, e + j ≤ nE s → XR (rlS s e j) (xrlS s c e j) ∧ WF (rlS s e j) ∧ KS s (rlS s e j) ∧ KX c (xrlS s c e j) ∧ SE s (rlS s e j) ∧ rlS s e j 0 = s 0 ∧ rlS s e j 1 = s 1 := by
  obtain ⟨hR, hW, -, -⟩ := id hF
  have hn60 := hW.n60
  intro j
  induction j with
  | zero => intro _; exact ⟨hR, hW, KS.rf s, KX.rf c, fun e he j hj => rfl, rfl, rfl⟩
  | succ j ih =>
    intro hj
    obtain ⟨i1, i2, i3, i4, i5, i6, i7⟩ := ih (by omega)
    rw [rlS, xrlS]
    by_cases hc : onP s e (e + j) = true ∧ fitE (rlS s e j) (e + j) = false
    · rw [if_pos hc, if_pos hc]
      exact ⟨XR_lk i1 i2 (by omega) _, WF_lk i2 (by omega) _, KS.u i3 (by omega), KX.u i4 (by omega), fun x hx k hk => by show upd _ _ _ _ = _; rw [pk_un (by omega)]; exact i5 x hx k hk, by rw [pk_un (by omega)]; exact i6, by rw [pk_un (by omega)]; exact i7⟩
    · rw [if_neg hc, if_neg hc]; exact ⟨i1, i2, i3, i4, i5, i6, i7⟩
theorem FS_rl {s c : Row} (hF : FS s c) {e j : Nat} (h : e + j ≤ nE s) : FS (rlS s e j) (xrlS s c e j) := by
  obtain ⟨i1, i2, i3, i4, -, -, -⟩ := rl_inv hF h
  exact hF.keep i3 i4 i1 i2
/-! adopting -/
theorem tr_eq {s s' : Row} (hW : WF s) (h : SE s s') {v : Nat → Int} {e : Nat} (he : e < nE s) : aff s' v e = aff s v e ∧ addV s' v e = addV s v e := by
  have e2 := h.xtk he
  have e4 : a1 s' e = a1 s e := by unfold a1; rw [h e he 2 (by omega)]
  have e5 : am s' e = am s e := by unfold am; rw [h e he 4 (by omega)]
  refine ⟨by unfold aff; rw [e2, e4, e5], ?_⟩
  funext a
  unfold addV
  rw [h.xctr he]
def adv (s : Row) (b : Nat) (j : Nat) : Nat → Int := trV s (bal s (hE s)) (brE s b) j
/-- what holds behind j entries of the branch -/
def WAI (s c : Row) (b j : Nat) (c' : Row) : Prop := XR (wF s b j) c' ∧ WF (wF s b j) ∧ KS s (wF s b j) ∧ KX c c' ∧ SE s (wF s b j) ∧ nE (wF s b j) = nE s + trN s (bal s (hE s)) (brE s b) j ∧ (∀ a, bal (wF s b j) (hE (wF s b j)) a = adv s b j a) ∧ (∀ i, 425 ≤ i → wF s b j i = s i) ∧ (∀ i, 2 ≤ i → i < 5 → wF s b j i = s i)
theorem WAI_0 {s c : Row} (hF : FS s c) (b : Nat) : WAI s c b 0 c := ⟨hF.1, hF.2.1, KS.rf s, KX.rf c, fun _ _ _ _ => rfl, rfl, fun _ => rfl, fun _ _ => rfl, fun _ _ _ => rfl⟩
theorem WAI_n {s c c' : Row} {b j : Nat} (h : WAI s c b j c') (hc : aff s (adv s b j) (brE s b j) = false) : WAI s c b (j + 1) c' := by
  have e1 : wF s b (j + 1) = wF s b j := by rw [wF, if_neg (by rw [show aff s (trV s (bal s (hE s)) (brE s b) j) (brE s b j) = false from hc]; decide)]
  have e2 : adv s b (j + 1) = adv s b j := by
    show stp s (adv s b j) (brE s b j) = adv s b j
    unfold stp; rw [hc]; rfl
  have e3 : trN s (bal s (hE s)) (brE s b) (j + 1) = trN s (bal s (hE s)) (brE s b) j := by
    rw [trN, show aff s (trV s (bal s (hE s)) (brE s b) j) (brE s b j) = false from hc]; rfl
  unfold WAI
  rw [e1, e2, e3]
  exact h
theorem WAI_y {s c c' : Row} (hW : WF s) {b j : Nat} (hb : b < nB s) (hj : j < mn s b) (h : WAI s c b j c') (hc : aff s (adv s b j) (brE s b j) = true) (hr : nE s + trN s (bal s (hE s)) (brE s b) (j + 1) ≤ 60) : WAI s c b (j + 1) (xputE (wF s b j) c' (me (wF s b j) (brE s b j) 1) (nI (a1 (wF s b j) (brE s b j))) (nI (a2 (wF s b j) (brE s b j))) (me (wF s b j) (brE s b j) 4) (nI (brE s b j))) := by
  obtain ⟨i1, i2, i3, i4, i5, i6, i7, i8, i9⟩ := h
  have hbe := brE_in hW hb hj
  have e3 : trN s (bal s (hE s)) (brE s b) (j + 1) = trN s (bal s (hE s)) (brE s b) j + 1 := by
    rw [trN, show aff s (trV s (bal s (hE s)) (brE s b) j) (brE s b j) = true from hc]; rfl
  have hn : nE (wF s b j) < 60 := by omega
  have w := hW.e hbe
  have q2 : nI (a1 (wF s b j) (brE s b j)) = me s (brE s b j) 2 := by
    have : a1 (wF s b j) (brE s b j) = a1 s (brE s b j) := by unfold a1; rw [i5 _ hbe 2 (by omega)]
    rw [this]; exact w.2.1.symm
  have q3 : nI (a2 (wF s b j) (brE s b j)) = me s (brE s b j) 3 := by
    have : a2 (wF s b j) (brE s b j) = a2 s (brE s b j) := by unfold a2; rw [i5 _ hbe 3 (by omega)]
    rw [this]; exact w.2.2.2.1.symm
  have q1 : me (wF s b j) (brE s b j) 1 = me s (brE s b j) 1 := i5 _ hbe 1 (by omega)
  have q4 : me (wF s b j) (brE s b j) 4 = me s (brE s b j) 4 := i5 _ hbe 4 (by omega)
  have e1 : wF s b (j + 1) = putE (wF s b j) (me s (brE s b j) 1) (nI (a1 s (brE s b j))) (nI (a2 s (brE s b j))) (me s (brE s b j) 4) (nI (brE s b j)) := by
    rw [wF, if_pos (show aff s (trV s (bal s (hE s)) (brE s b) j) (brE s b j) = true from hc), ← w.2.1, ← w.2.2.2.1]
  have e2 : adv s b (j + 1) = addV s (adv s b j) (brE s b j) := by
    show stp s (adv s b j) (brE s b j) = _
    unfold stp; rw [hc]; rfl
  have k1 := hW.a1l hbe
  have k2 := hW.a2l hbe
  have haf : tk s (brE s b j) = true → am s (brE s b j) ≤ adv s b j (a1 s (brE s b j)) := by
    intro ht
    unfold aff at hc
    rw [ht] at hc
    simp only [Bool.not_true, Bool.false_or] at hc
    exact of_decide_eq_true hc
  have tkk : ∀ z : ((me s (brE s b j) 1).toInt = 2 ∨ (me s (brE s b j) 1).toInt = 3), tk s (brE s b j) = true := fun z => decide_eq_true z
  have hw2 : WF (wF s b (j + 1)) := by
    rw [e1]
    exact WF_put i2 hn k1 k2 (hW.am0 hbe) (hW.am9 hbe) (fun z => hW.a12 hbe (tkk z)) (fun z => by rw [i7]; exact haf (tkk z))
  have hp := XR_put i1 i2 hn (me s (brE s b j) 1) (nI (a1 s (brE s b j))) (nI (a2 s (brE s b j))) (me s (brE s b j) 4) (nI (brE s b j))
  have hn0 : nE (wF s b (j + 1)) = nE (wF s b j) + 1 := by rw [e1]; exact nE_put hn
  have hh0 : hE (wF s b (j + 1)) = nE (wF s b j) := by rw [e1]; exact hE_put hn
  refine ⟨?_, hw2, ?_, ?_, ?_, by rw [hn0, i6, e3]; rfl, ?_, ?_, ?_⟩
  · rw [q1, q2, q3, q4, e1, ← w.2.1, ← w.2.2.2.1]
    rw [← w.2.1, ← w.2.2.2.1] at hp
    exact hp
  · rw [e1]; exact KS.tr i3 (KS_put hn)
  · exact KX.tr i4 (KX_put hn)
  · intro x hx k hk
    rw [e1, putE_old hn (by omega) (by omega)]
    exact i5 x hx k hk
  · intro a
    have hpa : pa (wF s b (j + 1)) (nE (wF s b j)) = hE (wF s b j) := by
      obtain ⟨n0, -⟩ := @putE_new (wF s b j) (me s (brE s b j) 1) (nI (a1 s (brE s b j))) (nI (a2 s (brE s b j))) (me s (brE s b j) 4) (nI (brE s b j))
      unfold pa
      rw [e1, n0]
      exact nI_clamp (by have := i2.hn; omega)
    have hSE2 : SE (wF s b j) (wF s b (j + 1)) := by rw [e1]; exact SE_put hn
    rw [hh0, bal_s hw2 (by have := i2.n1; omega) (by omega), hpa, bal_same i2 hSE2 i2.hn, i7, e2]
    unfold addV
    congr 1
    obtain ⟨-, m1, m2, m3, m4, -, -⟩ := @putE_new (wF s b j) (me s (brE s b j) 1) (nI (a1 s (brE s b j))) (nI (a2 s (brE s b j))) (me s (brE s b j) 4) (nI (brE s b j))
    rw [← e1] at m1 m2 m3 m4
    have z1 : bg (wF s b (j + 1)) (nE (wF s b j)) = bg s (brE s b j) := by unfold bg kd; rw [m1]
    have z2 : tk (wF s b (j + 1)) (nE (wF s b j)) = tk s (brE s b j) := by unfold tk kd; rw [m1]
    have z3 : a1 (wF s b (j + 1)) (nE (wF s b j)) = a1 s (brE s b j) := by unfold a1; rw [m2]; exact nI_clamp (Nat.lt_trans k1 (by omega))
    have z4 : a2 (wF s b (j + 1)) (nE (wF s b j)) = a2 s (brE s b j) := by unfold a2; rw [m3]; exact nI_clamp (Nat.lt_trans k2 (by omega))
    have z5 : am (wF s b (j + 1)) (nE (wF s b j)) = am s (brE s b j) := by unfold am; rw [m4]
    unfold ctr
    rw [z1, z2, z3, z4, z5]
  · intro i hi
    rw [e1, putE_b hn hi]; exact i8 i hi
  · intro i h2 h4
    rw [e1, putE_i hn h2 h4]; exact i9 i h2 h4
theorem FS_ad {s c c' : Row} (hF : FS s c) {b : Nat} (hb : b < nB s) (h : WAI s c b (mn s b) c') : FS (adS s (nI b)) (upd c' (425 + b * 5 + 4) (nI 2)) := by
  obtain ⟨hR, hW, -, -⟩ := id hF
  have hb10 := hW.b10
  obtain ⟨i1, i2, i3, i4, i5, i6, i7, i8, i9⟩ := h
  unfold adS
  rw [cl_n (by omega)]
  exact hF.keep (KS.u i3 (by omega)) (KX.u i4 (by omega)) (XR_st i1 i2 (by omega) _) (WF_st i2 (by omega) _)
theorem trN_mono (s : Row) (v : Nat → Int) (E : Nat → Nat) {i j : Nat} (h : i ≤ j) : trN s v E i ≤ trN s v E j := by
  induction j with
  | zero => rw [show i = 0 by omega]; exact Nat.le_refl _
  | succ j ih =>
    by_cases e : i = j + 1
    · rw [e]; exact Nat.le_refl _
    · have := ih (by omega)
      rw [trN]; omega
