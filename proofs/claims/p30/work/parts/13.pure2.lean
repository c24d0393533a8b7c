/-! what the writing methods make of the state -/
def putE (s : Row) (k f t a o : Int32) : Row :=
  upd (upd (upd (upd (upd (upd (upd (upd (upd s (5 + 7 * nE s + 0) (nI (hE s))) (5 + 7 * nE s + 1) k) (5 + 7 * nE s + 2) f) (5 + 7 * nE s + 3) t) (5 + 7 * nE s + 4) a) (5 + 7 * nE s + 6) o) (5 + 7 * nE s + 5) (fitX (me s (hE s) 5) k f t a (nE s))) 0 (nI (nE s + 1))) 1 (nI (nE s))
def xputE (s c : Row) (k f t a o : Int32) : Row :=
  upd (upd (upd (upd (upd (upd (upd (upd (upd c (5 + nE s * 7 + 0) k) (5 + nE s * 7 + 1) f) (5 + nE s * 7 + 2) t) (5 + nE s * 7 + 3) a) (5 + nE s * 7 + 4) (nI (hE s))) (5 + nE s * 7 + 6) o) (5 + nE s * 7 + 5) (fitX (me s (hE s) 5) k f t a (nE s))) 0 (nI (nE s + 1))) 1 (nI (nE s))
/-- the cells behind the ledger's own stay -/
def KX (c c' : Row) : Prop := ∀ i, 491 ≤ i → c' i = c i
def KS (s s' : Row) : Prop := ∀ i, 481 ≤ i → s' i = s i
theorem KX.rf (c : Row) : KX c c := fun _ _ => rfl
theorem KS.rf (c : Row) : KS c c := fun _ _ => rfl
theorem KX.tr {a b c : Row} (h : KX a b) (h2 : KX b c) : KX a c := fun i hi => (h2 i hi).trans (h i hi)
theorem KS.tr {a b c : Row} (h : KS a b) (h2 : KS b c) : KS a c := fun i hi => (h2 i hi).trans (h i hi)
theorem KX.u {c c' : Row} (h : KX c c') {i : Nat} {v : Int32} (hi : i < 491) : KX c (upd c' i v) := fun j hj => by rw [pk_un (by omega)]; exact h j hj
theorem KS.u {c c' : Row} (h : KS c c') {i : Nat} {v : Int32} (hi : i < 481) : KS c (upd c' i v) := fun j hj => by rw [pk_un (by omega)]; exact h j hj
theorem KS_put {s : Row} (hn : nE s < 60) {k f t a o : Int32} : KS s (putE s k f t a o) := by
  unfold putE
  refine KS.u (KS.u (KS.u (KS.u (KS.u (KS.u (KS.u (KS.u (KS.u (KS.rf s) ?_) ?_) ?_) ?_) ?_) ?_) ?_) ?_) ?_ <;> omega
theorem KX_put {s c : Row} (hn : nE s < 60) {k f t a o : Int32} : KX c (xputE s c k f t a o) := by
  unfold xputE
  refine KX.u (KX.u (KX.u (KX.u (KX.u (KX.u (KX.u (KX.u (KX.u (KX.rf c) ?_) ?_) ?_) ?_) ?_) ?_) ?_) ?_) ?_ <;> omega
/-- what stays of the old entries, the branches, the seals -/
theorem putE_old {s : Row} (hn : nE s < 60) {k f t a o : Int32} {e j : Nat} (he : e ≠ nE s) (hj : j < 7) : me (putE s k f t a o) e j = me s e j := by
  unfold putE me
  repeat rw [pk_un (by omega)]
theorem putE_b {s : Row} (hn : nE s < 60) {k f t a o : Int32} {i : Nat} (hi : 425 ≤ i) : putE s k f t a o i = s i := by
  unfold putE
  repeat rw [pk_un (by omega)]
theorem putE_i {s : Row} (hn : nE s < 60) {k f t a o : Int32} {i : Nat} (h2 : 2 ≤ i) (h4 : i < 5) : putE s k f t a o i = s i := by
  unfold putE
  repeat rw [pk_un (by omega)]
theorem putE_n {s : Row} {k f t a o : Int32} : putE s k f t a o 0 = nI (nE s + 1) := by
  unfold putE
  rw [pk_un (by omega), pk_us]
theorem putE_h {s : Row} {k f t a o : Int32} : putE s k f t a o 1 = nI (nE s) := by
  unfold putE
  rw [pk_us]
theorem putE_new {s : Row} {k f t a o : Int32} : me (putE s k f t a o) (nE s) 0 = nI (hE s) ∧ me (putE s k f t a o) (nE s) 1 = k ∧ me (putE s k f t a o) (nE s) 2 = f ∧ me (putE s k f t a o) (nE s) 3 = t ∧ me (putE s k f t a o) (nE s) 4 = a ∧ me (putE s k f t a o) (nE s) 5 = fitX (me s (hE s) 5) k f t a (nE s) ∧ me (putE s k f t a o) (nE s) 6 = o := by
  unfold putE me
  refine ⟨?_, ?_, ?_, ?_, ?_, ?_, ?_⟩ <;> (repeat first | rw [pk_us] | rw [pk_un (by omega)])
theorem nE_put {s : Row} (hn : nE s < 60) {k f t a o : Int32} : nE (putE s k f t a o) = nE s + 1 := by
  unfold nE; rw [putE_n]; exact nI_clamp (by omega)
theorem hE_put {s : Row} (hn : nE s < 60) {k f t a o : Int32} : hE (putE s k f t a o) = nE s := by
  unfold hE; rw [putE_h]; exact nI_clamp (by omega)
/-- paths of old entries stay -/
theorem up_same {s s' : Row} (hW : WF s) (h : ∀ e, 0 < e → e < nE s → pa s' e = pa s e) : ∀ (k e : Nat), e < nE s → k < dep s e → up s' e k = up s e k := by
  intro k
  induction k with
  | zero => intro e _ _; rfl
  | succ k ih =>
    intro e he hk
    by_cases e0 : e = 0
    · subst e0; rw [dep_0] at hk; omega
    · have hp := hW.pl (Nat.pos_of_ne_zero e0) he
      rw [dep_s hW (Nat.pos_of_ne_zero e0) he] at hk
      rw [up, up, h e (Nat.pos_of_ne_zero e0) he]
      exact ih _ (by omega) (by omega)
theorem XR_put {s c : Row} (hR : XR s c) (hW : WF s) (hn : nE s < 60) (k f t a o : Int32) : XR (putE s k f t a o) (xputE s c k f t a o) := by
  have hb10 := hW.b10
  have hs8 := hW.s8
  have hnb : nB (putE s k f t a o) = nB s := by unfold nB; rw [putE_i hn (by omega) (by omega)]
  obtain ⟨n0, n1, n2, n3, n4, n5, n6⟩ := @putE_new s k f t a o
  refine ⟨⟨?_, ?_, ?_, ?_, ?_⟩, fun e he => ?_, fun b hb => ?_, fun b hb => ?_, fun j hj => ?_⟩
  · rw [putE_n]; unfold xputE; rw [pk_un (by omega), pk_us]
  · rw [putE_h]; unfold xputE; rw [pk_us]
  · rw [putE_i hn (by omega) (by omega), ← hR.pt]; unfold xputE; repeat rw [pk_un (by omega)]
  · rw [putE_i hn (by omega) (by omega), ← hR.b]; unfold xputE; repeat rw [pk_un (by omega)]
  · rw [putE_i hn (by omega) (by omega), ← hR.s]; unfold xputE; repeat rw [pk_un (by omega)]
  · by_cases e0 : e = nE s
    · subst e0
      rw [n0, n1, n2, n3, n4, n5, n6]
      unfold xputE
      refine ⟨?_, ?_, ?_, ?_, ?_, ?_, ?_⟩ <;> (repeat first | rw [pk_us] | rw [pk_un (by omega)])
    · rw [putE_old hn e0 (by omega), putE_old hn e0 (by omega), putE_old hn e0 (by omega), putE_old hn e0 (by omega), putE_old hn e0 (by omega), putE_old hn e0 (by omega), putE_old hn e0 (by omega)]
      rw [← hR.xkd he, ← hR.xa1 he, ← hR.xa2 he, ← hR.xam he, ← hR.p he, ← hR.l he, ← hR.o he]
      unfold xputE
      refine ⟨?_, ?_, ?_, ?_, ?_, ?_, ?_⟩ <;> (repeat rw [pk_un (by omega)])
  · unfold mb
    rw [putE_b hn (by omega), putE_b hn (by omega), putE_b hn (by omega), putE_b hn (by omega)]
    have h1 := hR.xlf hb
    have h2 := hR.xmn hb
    have h3 := hR.pl hb
    have h4 := hR.st hb
    unfold mb at h1 h2 h3 h4
    rw [← h1, ← h2, ← h3, ← h4]
    unfold xputE
    refine ⟨?_, ?_, ?_, ?_⟩ <;> (repeat rw [pk_un (by omega)])
  · rw [hnb] at hb
    have e1 : brE (putE s k f t a o) b 0 = brE s b 0 := by
      have e2 : lf (putE s k f t a o) b = lf s b := by unfold lf mb; rw [putE_b hn (by omega)]
      have e3 : mn (putE s k f t a o) b = mn s b := by unfold mn mb; rw [putE_b hn (by omega)]
      unfold brE
      rw [e2, e3]
      refine up_same hW (fun e h0 he => ?_) _ _ (hW.lfl hb) ?_
      · unfold pa; rw [putE_old hn (by omega) (by omega)]
      · have h1 := hW.mnd hb
        omega
    rw [e1, ← hR.fst hb]
    unfold xputE
    repeat rw [pk_un (by omega)]
  · unfold msl
    rw [putE_b hn (by omega), putE_b hn (by omega)]
    have h1 := hR.se hj
    have h2 := hR.sl hj
    unfold msl at h1 h2
    rw [← h1, ← h2]
    unfold xputE
    refine ⟨?_, ?_⟩ <;> (repeat rw [pk_un (by omega)])
/-- every waiting branch pleads once more -/
def pleadF (s : Row) : Nat → Row
  | 0 => s
  | b + 1 => if waitB s b = true then upd (pleadF s b) (425 + 4 * b + 2) (mb s b 2 + nI 1) else pleadF s b
def plead (s : Row) : Row := pleadF s (nB s)
def xpleadF (s c : Row) : Nat → Row
  | 0 => c
  | b + 1 => if waitB s b = true then upd (xpleadF s c b) (425 + b * 5 + 3) (mb s b 2 + nI 1) else xpleadF s c b
theorem pleadF_at (s : Row) : ∀ (n i : Nat), (∀ b, b < n → i ≠ 425 + 4 * b + 2) → pleadF s n i = s i := by
  intro n
  induction n with
  | zero => intro i _; rfl
  | succ n ih =>
    intro i h
    have h1 := ih i (fun b hb => h b (by omega))
    rw [pleadF]
    split
    · rw [pk_un (h n (by omega))]; exact h1
    · exact h1
theorem pleadF_pl (s : Row) : ∀ (n b : Nat), pleadF s n (425 + 4 * b + 2) = if b < n ∧ waitB s b = true then mb s b 2 + nI 1 else mb s b 2 := by
  intro n
  induction n with
  | zero => intro b; rw [if_neg (by omega)]; rfl
  | succ n ih =>
    intro b
    rw [pleadF]
    by_cases hb : b = n
    · subst hb
      by_cases hw : waitB s b = true
      · rw [if_pos hw, pk_us, if_pos ⟨by omega, hw⟩]
      · rw [if_neg hw, ih, if_neg (by omega), if_neg (fun z => hw z.2)]
    · have h1 : ∀ x : Row, (if waitB s n = true then upd x (425 + 4 * n + 2) (mb s n 2 + nI 1) else x) (425 + 4 * b + 2) = x (425 + 4 * b + 2) := by
        intro x
        split
        · rw [pk_un (by omega)]
        · rfl
      rw [h1, ih]
      by_cases hw : b < n ∧ waitB s b = true
      · rw [if_pos hw, if_pos ⟨by omega, hw.2⟩]
      · rw [if_neg hw, if_neg (fun z => hw ⟨by omega, z.2⟩)]
theorem xpleadF_at (s c : Row) : ∀ (n i : Nat), (∀ b, b < n → i ≠ 425 + b * 5 + 3) → xpleadF s c n i = c i := by
  intro n
  induction n with
  | zero => intro i _; rfl
  | succ n ih =>
    intro i h
    have h1 := ih i (fun b hb => h b (by omega))
    rw [xpleadF]
    split
    · rw [pk_un (h n (by omega))]; exact h1
    · exact h1
theorem xpleadF_pl (s c : Row) : ∀ (n b : Nat), xpleadF s c n (425 + b * 5 + 3) = if b < n ∧ waitB s b = true then mb s b 2 + nI 1 else c (425 + b * 5 + 3) := by
  intro n
  induction n with
  | zero => intro b; rw [if_neg (by omega)]; rfl
  | succ n ih =>
    intro b
    rw [xpleadF]
    by_cases hb : b = n
    · subst hb
      by_cases hw : waitB s b = true
      · rw [if_pos hw, pk_us, if_pos ⟨by omega, hw⟩]
      · rw [if_neg hw, ih, if_neg (by omega), if_neg (fun z => hw z.2)]
    · have h1 : ∀ x : Row, (if waitB s n = true then upd x (425 + n * 5 + 3) (mb s n 2 + nI 1) else x) (425 + b * 5 + 3) = x (425 + b * 5 + 3) := by
        intro x
        split
        · rw [pk_un (by omega)]
        · rfl
      rw [h1, ih]
      by_cases hw : b < n ∧ waitB s b = true
      · rw [if_pos hw, if_pos ⟨by omega, hw.2⟩]
      · rw [if_neg hw, if_neg (fun z => hw ⟨by omega, z.2⟩)]
/-- a state of which only pleas and states of branches differ -/
theorem XR_plead {s c : Row} (hR : XR s c) (hW : WF s) : XR (plead s) (xpleadF s c (nB s)) := by
  have hb10 := hW.b10
  have A : ∀ i, (∀ b, b < nB s → i ≠ 425 + 4 * b + 2) → plead s i = s i := fun i h => pleadF_at s _ i h
  have B : ∀ i, (∀ b, b < nB s → i ≠ 425 + b * 5 + 3) → xpleadF s c (nB s) i = c i := fun i h => xpleadF_at s c _ i h
  have hE : ∀ e j, e < 60 → j < 7 → me (plead s) e j = me s e j := fun e j h1 h2 => A _ (fun b hb => by omega)
  have hX : ∀ e j, e < 60 → j < 7 → xpleadF s c (nB s) (5 + e * 7 + j) = c (5 + e * 7 + j) := fun e j h1 h2 => B _ (fun b hb => by omega)
  have hnb : nB (plead s) = nB s := by unfold nB; rw [A 2 (fun b hb => by omega)]
  refine ⟨⟨?_, ?_, ?_, ?_, ?_⟩, fun e he => ?_, fun b hb => ?_, fun b hb => ?_, fun j hj => ?_⟩
  · rw [A _ (fun b hb => by omega), B _ (fun b hb => by omega)]; exact hR.n
  · rw [A _ (fun b hb => by omega), B _ (fun b hb => by omega)]; exact hR.h
  · rw [A _ (fun b hb => by omega), B _ (fun b hb => by omega)]; exact hR.pt
  · rw [A _ (fun b hb => by omega), B _ (fun b hb => by omega)]; exact hR.b
  · rw [A _ (fun b hb => by omega), B _ (fun b hb => by omega)]; exact hR.s
  · rw [hX e 0 he (by omega), hX e 1 he (by omega), hX e 2 he (by omega), hX e 3 he (by omega), hX e 4 he (by omega), hX e 5 he (by omega), hX e 6 he (by omega), hE e 0 he (by omega), hE e 1 he (by omega), hE e 2 he (by omega), hE e 3 he (by omega), hE e 4 he (by omega), hE e 5 he (by omega), hE e 6 he (by omega)]
    exact hR.2.1 e he
  · refine ⟨?_, ?_, ?_, ?_⟩
    · rw [B _ (fun b hb => by omega), hR.xlf hb]; unfold mb; rw [A _ (fun b hb => by omega)]
    · rw [B _ (fun b hb => by omega), hR.xmn hb]; unfold mb; rw [A _ (fun b hb => by omega)]
    · rw [xpleadF_pl, hR.pl hb]; unfold plead; rw [show mb (pleadF s (nB s)) b 2 = _ from pleadF_pl s (nB s) b]
    · rw [B _ (fun b hb => by omega), hR.st hb]; unfold mb; rw [A _ (fun b hb => by omega)]
  · rw [hnb] at hb
    have e2 : lf (plead s) b = lf s b := by unfold lf mb; rw [A _ (fun b hb => by omega)]
    have e3 : mn (plead s) b = mn s b := by unfold mn mb; rw [A _ (fun b hb => by omega)]
    have e1 : brE (plead s) b 0 = brE s b 0 := by
      unfold brE
      rw [e2, e3]
      refine up_same hW (fun e h0 he => ?_) _ _ (hW.lfl hb) ?_
      · unfold pa; rw [hE e 0 (by have := hW.n60; omega) (by omega)]
      · have h1 := hW.mnd hb
        omega
    rw [e1, B _ (fun b hb => by omega)]
    exact hR.fst hb
  · unfold msl
    rw [A _ (fun b hb => by omega), A _ (fun b hb => by omega), B _ (fun b hb => by omega), B _ (fun b hb => by omega)]
    exact hR.2.2.2.2 j hj
theorem KX_plead {s c : Row} (hW : WF s) : KX c (xpleadF s c (nB s)) := fun i hi => xpleadF_at s c _ i (fun b hb => by have := hW.b10; omega)
theorem KS_plead {s : Row} (hW : WF s) : KS s (plead s) := fun i hi => pleadF_at s _ i (fun b hb => by have := hW.b10; omega)
