/-! the property of its own, pure: what holds of each state beyond WF -/
theorem rem_lt (x : Int32) : (x - x / nI 9973 * nI 9973).toInt < 9973 := by
  obtain ⟨X, hx, h1, h2⟩ : ∃ X : Int, x = iI X ∧ -2147483648 ≤ X ∧ X < 2147483648 := ⟨x.toInt, (iI_self x).symm, i32_lo x, i32_hi x⟩
  have hxt : x.toInt = X := by rw [hx, iI_toInt h1 h2]
  have hd : x / nI 9973 = iI (X.tdiv 9973) := by
    have h3 : (x / nI 9973).toInt = x.toInt.tdiv (nI 9973).toInt := Int32.toInt_div_of_ne_right _ _ (by decide)
    rw [hxt, show (nI 9973).toInt = 9973 by decide] at h3
    rw [← h3, iI_self]
  have hv : -9973 < X - X.tdiv 9973 * 9973 ∧ X - X.tdiv 9973 * 9973 < 9973 := by
    rcases Int.le_total 0 X with h | h
    · rw [Int.tdiv_eq_ediv_of_nonneg h]; omega
    · obtain ⟨Y, hY⟩ : ∃ Y : Int, X = -Y := ⟨-X, by omega⟩
      rw [hY, Int.neg_tdiv, Int.tdiv_eq_ediv_of_nonneg (show 0 ≤ Y by omega)]; omega
  have e : x - x / nI 9973 * nI 9973 = iI (X - X.tdiv 9973 * ((9973 : Nat) : Int)) := by
    rw [hd, hx, nI_iI, iI_mul, iI_sub]
  rw [e, iI_toInt (by omega) (by omega)]
  omega
theorem fitX_lt (lk kk f t a : Int32) (e : Nat) : (fitX lk kk f t a e).toInt < 9973 := by unfold fitX; exact rem_lt _
theorem fit_lt (s : Row) (e : Nat) : (fit s e).toInt < 9973 := by
  unfold fit
  split
  · decide
  · exact fitX_lt _ _ _ _ _ _
def EX (s : Row) : Prop := me s 0 0 = -100009 ∧ me s 0 5 = 1 ∧ (∀ e, e < nE s → (me s e 5).toInt < 9973) ∧ 1 ≤ (s 3).toInt ∧ ∀ b, b < nB s → mb s b 3 = nI 0 ∨ mb s b 3 = nI 2 ∨ mb s b 3 = nI 3
theorem EX_cells {s s' : Row} (h : EX s) (h2 : nB s' = nB s) (h0 : nE s' = nE s) (h3 : s' 3 = s 3) (hp : me s' 0 0 = me s 0 0) (h00 : me s' 0 5 = me s 0 5) (hl : ∀ e, e < nE s → me s' e 5 = me s e 5) (hb : ∀ b, b < nB s → mb s' b 3 = mb s b 3) : EX s' := by
  obtain ⟨g1, g2, g3, g4, g5⟩ := h
  exact ⟨hp.trans g1, h00.trans g2, fun e he => by rw [h0] at he; rw [hl e he]; exact g3 e he, by rw [h3]; exact g4, fun b hb' => by rw [h2] at hb'; rw [hb b hb']; exact g5 b hb'⟩
theorem EX_cong {s s' : Row} (hW : WF s) (h : EX s) (hS : ∀ i, i < 481 → s' i = s i) : EX s' := by
  have h60 := hW.n60
  have h10 := hW.b10
  exact EX_cells h (by unfold nB; rw [hS 2 (by omega)]) (by unfold nE; rw [hS 0 (by omega)]) (hS 3 (by omega)) (hS _ (by omega)) (hS _ (by omega)) (fun e he => hS _ (by omega)) (fun b hb => hS _ (by omega))
theorem EX_put {s : Row} (hW : WF s) (h : EX s) (hn : nE s < 60) {k f t a o : Int32} : EX (putE s k f t a o) := by
  obtain ⟨g1, g2, g3, g4, g5⟩ := h
  obtain ⟨-, -, -, -, -, n5, -⟩ := @putE_new s k f t a o
  have h1 := hW.n1
  have h10 := hW.b10
  refine ⟨(putE_old hn (by omega) (by omega)).trans g1, (putE_old hn (by omega) (by omega)).trans g2, fun e he => ?_, by rw [putE_i hn (by omega) (by omega)]; exact g4, fun b hb => ?_⟩
  · rw [nE_put hn] at he
    by_cases e0 : e = nE s
    · rw [e0, n5]; exact fitX_lt _ _ _ _ _ _
    · rw [putE_old hn e0 (by omega)]; exact g3 e (by omega)
  · have e2 : nB (putE s k f t a o) = nB s := by unfold nB; rw [putE_i hn (by omega) (by omega)]
    rw [e2] at hb
    have e3 : mb (putE s k f t a o) b 3 = mb s b 3 := putE_b hn (by omega)
    rw [e3]; exact g5 b hb
theorem nB_plead {s : Row} (hW : WF s) : nB (plead s) = nB s := by unfold nB; rw [plead_at hW (by omega)]
theorem EX_plead {s : Row} (hW : WF s) (h : EX s) : EX (plead s) := by
  have h60 := hW.n60
  have h10 := hW.b10
  exact EX_cells h (nB_plead hW) (nE_plead hW) (plead_at hW (by omega)) (plead_at hW (by omega)) (plead_at hW (by omega)) (fun e he => plead_at hW (by omega)) (fun b hb => pleadF_at s _ _ (fun b' _ => by omega))
theorem EX_st {s : Row} (hW : WF s) (h : EX s) {b0 : Nat} (hb0 : b0 < 10) {v : Int32} (hv : v = nI 0 ∨ v = nI 2 ∨ v = nI 3) : EX (upd s (425 + 4 * b0 + 3) v) := by
  have h60 := hW.n60
  have h10 := hW.b10
  obtain ⟨g1, g2, g3, g4, g5⟩ := h
  have A : ∀ i, i ≠ 425 + 4 * b0 + 3 → upd s (425 + 4 * b0 + 3) v i = s i := fun i h => pk_un h
  refine ⟨(A _ (by omega)).trans g1, (A _ (by omega)).trans g2, fun e he => ?_, by rw [A 3 (by omega)]; exact g4, fun b hb => ?_⟩
  · have e0 : nE (upd s (425 + 4 * b0 + 3) v) = nE s := by unfold nE; rw [A 0 (by omega)]
    rw [e0] at he
    rw [show me (upd s (425 + 4 * b0 + 3) v) e 5 = me s e 5 from A _ (by omega)]
    exact g3 e he
  · have e0 : nB (upd s (425 + 4 * b0 + 3) v) = nB s := by unfold nB; rw [A 2 (by omega)]
    rw [e0] at hb
    by_cases e : b = b0
    · rw [e, show mb (upd s (425 + 4 * b0 + 3) v) b0 3 = v from pk_us]; exact hv
    · rw [show mb (upd s (425 + 4 * b0 + 3) v) b 3 = mb s b 3 from A _ (by omega)]; exact g5 b hb
theorem sealS_at {s : Row} {i : Nat} (h4 : i ≠ 4) (h : i < 465) : sealS s i = s i := by unfold sealS; repeat rw [pk_un (by omega)]
theorem EX_seal {s : Row} (hW : WF s) (h : EX s) : EX (sealS s) := by
  have h60 := hW.n60
  have h10 := hW.b10
  exact EX_cells h (by unfold nB; rw [sealS_at (by omega) (by omega)]) (by unfold nE; rw [sealS_at (by omega) (by omega)]) (sealS_at (by omega) (by omega)) (sealS_at (by omega) (by omega)) (sealS_at (by omega) (by omega)) (fun e he => sealS_at (by omega) (by omega)) (fun b hb => sealS_at (by omega) (by omega))
theorem EX_branch {s : Row} (hW : WF s) (h : EX s) (hn : nB s < 10) {L N : Nat} : EX (branchS s L N) := by
  have h60 := hW.n60
  obtain ⟨g1, g2, g3, g4, g5⟩ := h
  obtain ⟨-, -, -, n3, n4⟩ := branchS_new s L N
  refine ⟨(branchS_at (by omega) (by omega)).trans g1, (branchS_at (by omega) (by omega)).trans g2, fun e he => ?_, by rw [branchS_at (by omega) (by omega)]; exact g4, fun b hb => ?_⟩
  · have e0 : nE (branchS s L N) = nE s := by unfold nE; rw [branchS_at (by omega) (by omega)]
    rw [e0] at he
    rw [show me (branchS s L N) e 5 = me s e 5 from branchS_at (by omega) (by omega)]
    exact g3 e he
  · have e0 : nB (branchS s L N) = nB s + 1 := by unfold nB; rw [n4]; exact nI_clamp (by omega)
    rw [e0] at hb
    by_cases e : b = nB s
    · rw [e]; exact Or.inl n3
    · rw [show mb (branchS s L N) b 3 = mb s b 3 from branchS_at (by omega) (by omega)]
      exact g5 b (by omega)
theorem EX_head {s : Row} (h : EX s) (v : Int32) : EX (upd s 1 v) :=
  EX_cells h (by unfold nB; rw [pk_un (by omega)]) (by unfold nE; rw [pk_un (by omega)]) (pk_un (by omega)) (pk_un (by omega)) (pk_un (by omega)) (fun e he => pk_un (by omega)) (fun b hb => pk_un (by omega))
theorem EX_pat {s : Row} (h : EX s) {v : Int32} (hv : 1 ≤ v.toInt) : EX (upd s 3 v) := by
  obtain ⟨g1, g2, g3, g4, g5⟩ := h
  have A : ∀ i, i ≠ 3 → upd s 3 v i = s i := fun i h => pk_un h
  refine ⟨(A _ (by omega)).trans g1, (A _ (by omega)).trans g2, fun e he => ?_, by rw [pk_us]; exact hv, fun b hb => ?_⟩
  · have e0 : nE (upd s 3 v) = nE s := by unfold nE; rw [A 0 (by omega)]
    rw [e0] at he
    rw [show me (upd s 3 v) e 5 = me s e 5 from A _ (by omega)]
    exact g3 e he
  · have e0 : nB (upd s 3 v) = nB s := by unfold nB; rw [A 2 (by omega)]
    rw [e0] at hb
    rw [show mb (upd s 3 v) b 3 = mb s b 3 from A _ (by omega)]
    exact g5 b hb
theorem EX_fg {s : Row} (hW : WF s) (h : EX s) {e : Nat} (he : e < nE s) (a : Int32) : EX (fgS s e a) := by
  have h60 := hW.n60
  exact EX_cells h (by unfold nB fgS; rw [pk_un (by omega)]) (by unfold nE fgS; rw [pk_un (by omega)]) (pk_un (by omega)) (pk_un (by omega)) (pk_un (by omega)) (fun x hx => pk_un (by omega)) (fun b hb => pk_un (by omega))
theorem EX_lk {s : Row} (hW : WF s) (h : EX s) {e0 : Nat} (he0 : e0 < nE s) : EX (upd s (5 + 7 * e0 + 5) (fit s e0)) := by
  have h60 := hW.n60
  obtain ⟨g1, g2, g3, g4, g5⟩ := h
  have A : ∀ i, i ≠ 5 + 7 * e0 + 5 → upd s (5 + 7 * e0 + 5) (fit s e0) i = s i := fun i h => pk_un h
  refine ⟨(A _ (by omega)).trans g1, ?_, fun e he => ?_, by rw [A 3 (by omega)]; exact g4, fun b hb => ?_⟩
  · by_cases e : e0 = 0
    · subst e
      rw [show me (upd s (5 + 7 * 0 + 5) (fit s 0)) 0 5 = fit s 0 from pk_us]
      unfold fit; rw [if_pos rfl]
    · exact (A _ (by omega)).trans g2
  · have e1 : nE (upd s (5 + 7 * e0 + 5) (fit s e0)) = nE s := by unfold nE; rw [A 0 (by omega)]
    rw [e1] at he
    by_cases e2 : e = e0
    · rw [e2, show me (upd s (5 + 7 * e0 + 5) (fit s e0)) e0 5 = fit s e0 from pk_us]; exact fit_lt s e0
    · rw [show me (upd s (5 + 7 * e0 + 5) (fit s e0)) e 5 = me s e 5 from A _ (by omega)]
      exact g3 e he
  · have e1 : nB (upd s (5 + 7 * e0 + 5) (fit s e0)) = nB s := by unfold nB; rw [A 2 (by omega)]
    rw [e1] at hb
    rw [show mb (upd s (5 + 7 * e0 + 5) (fit s e0)) b 3 = mb s b 3 from A _ (by omega)]
    exact g5 b hb
theorem EX_rl {s : Row} (hW : WF s) (h : EX s) {e : Nat} : ∀ {j : Nat}, e + j ≤ nE s → EX (rlS s e j) ∧ WF (rlS s e j) ∧ nE (rlS s e j) = nE s ∧ SE s (rlS s e j) := by
  have h60 := hW.n60
  intro j
  induction j with
  | zero => intro _; exact ⟨h, hW, rfl, fun _ _ _ _ => rfl⟩
  | succ j ih =>
    intro hj
    obtain ⟨i1, i2, i3, i4⟩ := ih (by omega)
    rw [rlS]
    by_cases hc : onP s e (e + j) = true ∧ fitE (rlS s e j) (e + j) = false
    · rw [if_pos hc]
      exact ⟨EX_lk i2 i1 (by omega), WF_lk i2 (by omega) _, by unfold nE; rw [pk_un (by omega)]; exact i3, fun x hx k hk => (pk_un (by omega)).trans (i4 x hx k hk)⟩
    · rw [if_neg hc]; exact ⟨i1, i2, i3, i4⟩
theorem EX_wF {s c : Row} (hF : FS s c) (h : EX s) {b : Nat} (hb : b < nB s) : ∀ {j : Nat}, j ≤ mn s b → nE s + trN s (bal s (hE s)) (brE s b) j ≤ 60 → (∃ c', WAI s c b j c') ∧ EX (wF s b j) := by
  obtain ⟨hR, hW, -, -⟩ := id hF
  intro j
  induction j with
  | zero => intro _ _; exact ⟨⟨c, WAI_0 hF b⟩, h⟩
  | succ j ih =>
    intro hj hr
    have hm := trN_mono s (bal s (hE s)) (brE s b) (show j ≤ j + 1 by omega)
    obtain ⟨⟨c', i1⟩, i2⟩ := ih (by omega) (by omega)
    cases hc : aff s (adv s b j) (brE s b j) with
    | false =>
      refine ⟨⟨c', WAI_n i1 hc⟩, ?_⟩
      rw [wF, if_neg (by rw [show aff s (trV s (bal s (hE s)) (brE s b) j) (brE s b j) = false from hc]; decide)]
      exact i2
    | true =>
      refine ⟨⟨_, WAI_y hW hb (by omega) i1 hc hr⟩, ?_⟩
      rw [wF, if_pos (show aff s (trV s (bal s (hE s)) (brE s b) j) (brE s b j) = true from hc)]
      have e3 : trN s (bal s (hE s)) (brE s b) (j + 1) = trN s (bal s (hE s)) (brE s b) j + 1 := by
        rw [trN, show aff s (trV s (bal s (hE s)) (brE s b) j) (brE s b j) = true from hc]; rfl
      obtain ⟨-, k2, -, -, -, k6, -⟩ := i1
      exact EX_put k2 i2 (by omega)
theorem EX_0 : EX sts0 := by
  have hn : nE sts0 = 1 := by decide +kernel
  have hb : nB sts0 = 0 := by decide +kernel
  refine ⟨by decide +kernel, by decide +kernel, fun e he => ?_, by decide +kernel, fun b h => ?_⟩
  · have e0 : e = 0 := by omega
    subst e0
    decide +kernel
  · omega
/-- what the law's loop keeps -/
def LX (s c : Row) (st nx : Nat) : Prop := FS s c ∧ EX s ∧ st ≤ 5 ∧ nx < 5
theorem LX_0 : LX sts0 led0 0 0 := ⟨FS_0, EX_0, by omega, by omega⟩
theorem ACT_y {s c hc S c2 hc2 : Row} {st nx st2 nx2 : Nat} {ok : Bool} (ho : ok = true) (hX : EX S) (a : ACT s c hc st nx ok S c2 hc2 st2 nx2) : LX S c2 st2 nx2 := by
  unfold ACT at a
  rw [if_pos ho] at a
  obtain ⟨a1, -, rfl, rfl⟩ := a
  exact ⟨a1, hX, recN_le _, Nat.mod_lt _ (by omega)⟩
theorem ACT_n {s c hc S c2 hc2 : Row} {st nx st2 nx2 : Nat} {ok : Bool} (ho : ok = false) (h : LX s c st nx) (a : ACT s c hc st nx ok S c2 hc2 st2 nx2) : LX s c2 st2 nx2 := by
  unfold ACT at a
  rw [if_neg (by rw [ho]; decide)] at a
  obtain ⟨rfl, -, rfl, rfl⟩ := a
  exact h
