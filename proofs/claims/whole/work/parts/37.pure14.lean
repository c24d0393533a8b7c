theorem WF_fr {s : Row} (hW : WF s) {i : Nat} {v : Int32} (h : 425 + 4 * nB s ≤ i) (h2 : i < 465) : WF (upd s i v) := by
  have hb10 := hW.b10
  have hn60 := hW.n60
  exact WF_same hW (pk_un (by omega)) (pk_un (by omega)) (pk_un (by omega)) (pk_un (by omega)) (fun e he j hj => pk_un (by omega)) (fun b hb => ⟨pk_un (by omega), pk_un (by omega)⟩) (fun k hk => pk_un (by omega))
theorem SE_up {s : Row} (hW : WF s) {i : Nat} {v : Int32} (h : 425 ≤ i) : SE s (upd s i v) := fun e he j hj => pk_un (by have := hW.n60; omega)
theorem cpy_s0 (f g : Row) (a i : Nat) : upd (va_cpy f g a 0 i) i (f (a + i)) = va_cpy f g a 0 (i + 1) := by
  have h := cpy_s f g a 0 i
  rw [Nat.zero_add] at h
  exact h
theorem cpy_sz (f g : Row) (b i : Nat) : upd (va_cpy f g 0 b i) (b + i) (f i) = va_cpy f g 0 b (i + 1) := by
  have h := cpy_s f g 0 b i
  rw [Nat.zero_add] at h
  exact h
theorem rl_inv8 {s : Row} (hW : WF s) {e : Nat} : ∀ {j : Nat}, e + j ≤ nE s → WF (rlS s e j) ∧ SE s (rlS s e j) ∧ rlS s e j 0 = s 0 ∧ rlS s e j 1 = s 1 := by
  have hn60 := hW.n60
  intro j
  induction j with
  | zero => intro _; exact ⟨hW, fun e he j hj => rfl, rfl, rfl⟩
  | succ j ih =>
    intro hj
    obtain ⟨i2, i5, i6, i7⟩ := ih (by omega)
    rw [rlS]
    by_cases hc : onP s e (e + j) = true ∧ fitE (rlS s e j) (e + j) = false
    · rw [if_pos hc]
      exact ⟨WF_lk i2 (by omega) _, fun x hx k hk => by show upd _ _ _ _ = _; rw [pk_un (by omega)]; exact i5 x hx k hk, by rw [pk_un (by omega)]; exact i6, by rw [pk_un (by omega)]; exact i7⟩
    · rw [if_neg hc]; exact ⟨i2, i5, i6, i7⟩
theorem fg_e {s : Row} (hW : WF s) {e : Nat} {a : Int32} (h0 : 0 ≤ a.toInt) (h9 : a.toInt ≤ 999) : ∀ x, x < nE s → WFe (fgS s e a) x := by
  intro x hx
  have hpa : ∀ y, pa (fgS s e a) y = pa s y := fun y => by unfold pa; rw [fgS_me (by omega) (by omega)]
  obtain ⟨w1, w2, w3, w4, w5, w6, w7, w8⟩ := hW.e hx
  have q1 : a1 (fgS s e a) x = a1 s x := by unfold a1; rw [fgS_me (by omega) (by omega)]
  have q2 : a2 (fgS s e a) x = a2 s x := by unfold a2; rw [fgS_me (by omega) (by omega)]
  have q3 : tk (fgS s e a) x = tk s x := by unfold tk kd; rw [fgS_me (by omega) (by omega)]
  refine ⟨fun h => ⟨by rw [fgS_me (by omega) (by omega), hpa]; exact (w1 h).1, by rw [hpa]; exact (w1 h).2⟩, by rw [fgS_me (by omega) (by omega), q1]; exact w2, by rw [q1]; exact w3, by rw [fgS_me (by omega) (by omega), q2]; exact w4, by rw [q2]; exact w5, ?_, ?_, by rw [q1, q2, q3]; exact w8⟩
  · by_cases hxe : x = e
    · subst hxe; unfold am; rw [fgS_am]; exact h0
    · unfold am; rw [fgS_me (by omega) (by omega)]; exact w6
  · by_cases hxe : x = e
    · subst hxe; unfold am; rw [fgS_am]; exact h9
    · unfold am; rw [fgS_me (by omega) (by omega)]; exact w7
theorem fg_n {s : Row} {e : Nat} {a : Int32} : nE (fgS s e a) = nE s := by unfold nE fgS; rw [pk_un (by omega)]
theorem fg_rng {s : Row} (hW : WF s) {e : Nat} (he0 : 0 < e) (he : e < nE s) {a : Int32} (h0 : 0 ≤ a.toInt) (h9 : a.toInt ≤ 999) {x : Nat} (hx : x < nE s) {acc : Nat} (hacc : acc < 6) : -2147483648 ≤ bal (fgS s e a) x acc ∧ bal (fgS s e a) x acc < 2147483648 := by
  have h1 := bal_bd hW hx acc hacc
  have h2 := hW.am0 he
  have h3 := hW.am9 he
  rw [fg_bal hW he0 acc x hx]
  unfold dlt
  split
  · split <;> split <;> omega
  · omega
theorem fgS_back {s : Row} {e : Nat} {a : Int32} : upd (fgS s e a) (5 + 7 * e + 4) (me s e 4) = s := by
  funext i
  by_cases h : i = 5 + 7 * e + 4
  · rw [h, pk_us]
  · rw [pk_un h]; exact pk_un h
/-- adopting, by the entries written -/
def wK (s : Row) (b : Nat) : Nat → Row
  | 0 => s
  | k + 1 => putE (wK s b k) (me s (okE s (bal s (hE s)) (brE s b) (mn s b) k) 1) (me s (okE s (bal s (hE s)) (brE s b) (mn s b) k) 2) (me s (okE s (bal s (hE s)) (brE s b) (mn s b) k) 3) (me s (okE s (bal s (hE s)) (brE s b) (mn s b) k) 4) (nI (okE s (bal s (hE s)) (brE s b) (mn s b) k))
theorem wF_K (s : Row) (b : Nat) : ∀ j, j ≤ mn s b → wF s b j = wK s b (trN s (bal s (hE s)) (brE s b) j) := by
  intro j
  induction j with
  | zero => intro _; rfl
  | succ j ih =>
    intro hj
    have h1 := ih (by omega)
    by_cases hc : aff s (trV s (bal s (hE s)) (brE s b) j) (brE s b j) = true
    · have hk : okE s (bal s (hE s)) (brE s b) (mn s b) (trN s (bal s (hE s)) (brE s b) j) = brE s b j := by
        unfold okE
        rw [trN_cnt, nthF_at (fun j => aff s (trV s (bal s (hE s)) (brE s b) j) (brE s b j)) (by omega) hc]
      rw [wF, if_pos hc, trN, if_pos hc, wK, hk, h1]
    · rw [wF, if_neg hc, trN, if_neg hc, h1]; rfl
def WAJ (s : Row) (b j : Nat) : Prop := WF (wF s b j) ∧ SE s (wF s b j) ∧ nE (wF s b j) = nE s + trN s (bal s (hE s)) (brE s b) j ∧ (∀ a, bal (wF s b j) (hE (wF s b j)) a = adv s b j a)
theorem WAJ_s {s : Row} (hW : WF s) {b j : Nat} (hb : b < nB s) (hj : j < mn s b) (h : WAJ s b j) (hr : nE s + trN s (bal s (hE s)) (brE s b) (j + 1) ≤ 60) : WAJ s b (j + 1) := by
  obtain ⟨i2, i5, i6, i7⟩ := h
  have hbe := brE_in hW hb hj
  cases hc : aff s (adv s b j) (brE s b j) with
  | false =>
    have e1 : wF s b (j + 1) = wF s b j := by rw [wF, if_neg (by rw [show aff s (trV s (bal s (hE s)) (brE s b) j) (brE s b j) = false from hc]; decide)]
    have e2 : adv s b (j + 1) = adv s b j := by
      show stp s (adv s b j) (brE s b j) = adv s b j
      unfold stp; rw [hc]; rfl
    have e3 : trN s (bal s (hE s)) (brE s b) (j + 1) = trN s (bal s (hE s)) (brE s b) j := by
      rw [trN, show aff s (trV s (bal s (hE s)) (brE s b) j) (brE s b j) = false from hc]; rfl
    unfold WAJ
    rw [e1, e2, e3]
    exact ⟨i2, i5, i6, i7⟩
  | true =>
    have e3 : trN s (bal s (hE s)) (brE s b) (j + 1) = trN s (bal s (hE s)) (brE s b) j + 1 := by
      rw [trN, show aff s (trV s (bal s (hE s)) (brE s b) j) (brE s b j) = true from hc]; rfl
    have hn : nE (wF s b j) < 60 := by omega
    have w := hW.e hbe
    have e1 : wF s b (j + 1) = putE (wF s b j) (me s (brE s b j) 1) (nI (a1 s (brE s b j))) (nI (a2 s (brE s b j))) (me s (brE s b j) 4) (nI (brE s b j)) := by
      rw [wF, if_pos (show aff s (trV s (bal s (hE s)) (brE s b) j) (brE s b j) = true from hc), ← w.2.1, ← w.2.2.2.1]
    have e2 : adv s b (j + 1) = addV s (adv s b j) (brE s b j) := by
      show stp s (adv s b j) (brE s b j) = _
      unfold stp; rw [hc]; rfl
    have k1 := hW.a1l hbe
    have k2 := hW.a2l hbe
    have haf : tk s (brE s b j) = true → am s (brE s b j) ≤ adv s b j (a1 s (brE s b j)) := by
      intro ht
      unfold aff at hc
      rw [ht] at hc
      simp only [Bool.not_true, Bool.false_or] at hc
      exact of_decide_eq_true hc
    have tkk : ∀ z : ((me s (brE s b j) 1).toInt = 2 ∨ (me s (brE s b j) 1).toInt = 3), tk s (brE s b j) = true := fun z => decide_eq_true z
    have hw2 : WF (wF s b (j + 1)) := by
      rw [e1]
      exact WF_put i2 hn k1 k2 (hW.am0 hbe) (hW.am9 hbe) (fun z => hW.a12 hbe (tkk z)) (fun z => by rw [i7]; exact haf (tkk z))
    have hn0 : nE (wF s b (j + 1)) = nE (wF s b j) + 1 := by rw [e1]; exact nE_put hn
    have hh0 : hE (wF s b (j + 1)) = nE (wF s b j) := by rw [e1]; exact hE_put hn
    refine ⟨hw2, ?_, by rw [hn0, i6, e3]; rfl, ?_⟩
    · intro x hx k hk
      rw [e1, putE_old hn (by omega) (by omega)]
      exact i5 x hx k hk
    · intro a
      have hpa : pa (wF s b (j + 1)) (nE (wF s b j)) = hE (wF s b j) := by
        obtain ⟨n0, -⟩ := @putE_new (wF s b j) (me s (brE s b j) 1) (nI (a1 s (brE s b j))) (nI (a2 s (brE s b j))) (me s (brE s b j) 4) (nI (brE s b j))
        unfold pa
        rw [e1, n0]
        exact nI_clamp (by have := i2.hn; omega)
      have hSE2 : SE (wF s b j) (wF s b (j + 1)) := by rw [e1]; exact SE_put hn
      rw [hh0, bal_s hw2 (by have := i2.n1; omega) (by omega), hpa, bal_same i2 hSE2 i2.hn, i7, e2]
      unfold addV
      congr 1
      obtain ⟨-, m1, m2, m3, m4, -, -⟩ := @putE_new (wF s b j) (me s (brE s b j) 1) (nI (a1 s (brE s b j))) (nI (a2 s (brE s b j))) (me s (brE s b j) 4) (nI (brE s b j))
      rw [← e1] at m1 m2 m3 m4
      have z1 : bg (wF s b (j + 1)) (nE (wF s b j)) = bg s (brE s b j) := by unfold bg kd; rw [m1]
      have z2 : tk (wF s b (j + 1)) (nE (wF s b j)) = tk s (brE s b j) := by unfold tk kd; rw [m1]
      have z3 : a1 (wF s b (j + 1)) (nE (wF s b j)) = a1 s (brE s b j) := by unfold a1; rw [m2]; exact nI_clamp (Nat.lt_trans k1 (by omega))
      have z4 : a2 (wF s b (j + 1)) (nE (wF s b j)) = a2 s (brE s b j) := by unfold a2; rw [m3]; exact nI_clamp (Nat.lt_trans k2 (by omega))
      have z5 : am (wF s b (j + 1)) (nE (wF s b j)) = am s (brE s b j) := by unfold am; rw [m4]
      unfold ctr
      rw [z1, z2, z3, z4, z5]
theorem WAJ_all {s : Row} (hW : WF s) {b : Nat} (hb : b < nB s) (hr : nE s + adN s b ≤ 60) : ∀ {j : Nat}, j ≤ mn s b → WAJ s b j := by
  intro j
  induction j with
  | zero => intro _; exact ⟨hW, fun _ _ _ _ => rfl, rfl, fun _ => rfl⟩
  | succ j ih =>
    intro hj
    exact WAJ_s hW hb (by omega) (ih (by omega)) (Nat.le_trans (Nat.add_le_add_left (trN_mono s _ _ hj) _) hr)
theorem wK_ok {s : Row} (hW : WF s) {b : Nat} (hb : b < nB s) (hr : nE s + adN s b ≤ 60) {k : Nat} (hk : k < adN s b) : WF (wK s b k) ∧ SE s (wK s b k) ∧ nE (wK s b k) = nE s + k ∧ okE s (bal s (hE s)) (brE s b) (mn s b) k < nE s := by
  have hk2 : k < cntF (fun j => aff s (trV s (bal s (hE s)) (brE s b) j) (brE s b j)) (mn s b) := by rw [← trN_cnt]; exact hk
  obtain ⟨h1, h2, h3⟩ := nthF_is _ _ _ hk2
  have h4 := wF_K s b _ (Nat.le_of_lt h1)
  rw [trN_cnt, h3] at h4
  obtain ⟨i2, i5, i6, -⟩ := WAJ_all hW hb hr (Nat.le_of_lt h1)
  rw [h4] at i2 i5 i6
  rw [trN_cnt, h3] at i6
  exact ⟨i2, i5, i6, brE_in hW hb h1⟩
theorem i2c_n : ∀ v, v < 256 → ((nI v).toUInt32 % 65536).toInt32 = nI v := by decide +kernel
/-- entries as they may be, the balances left out -/
def WG (s : Row) : Prop := nE s ≤ 60 ∧ ∀ e, e < nE s → WFe s e
theorem WG.n60 {s : Row} (h : WG s) : nE s ≤ 60 := h.1
theorem WG.e {s : Row} (h : WG s) {e : Nat} (he : e < nE s) : WFe s e := h.2 e he
theorem WG.p {s : Row} (h : WG s) {e : Nat} (h0 : 0 < e) (he : e < nE s) : me s e 0 = nI (pa s e) := ((h.e he).1 h0).1
theorem WG.pl {s : Row} (h : WG s) {e : Nat} (h0 : 0 < e) (he : e < nE s) : pa s e < e := ((h.e he).1 h0).2
theorem WG.a1l {s : Row} (hW : WG s) {e : Nat} (he : e < nE s) : a1 s e < 6 := (hW.e he).2.2.1
theorem WG.a2l {s : Row} (hW : WG s) {e : Nat} (he : e < nE s) : a2 s e < 6 := (hW.e he).2.2.2.2.1
theorem WG.a12 {s : Row} (hW : WG s) {e : Nat} (he : e < nE s) (h : tk s e = true) : a1 s e ≠ a2 s e := (hW.e he).2.2.2.2.2.2.2 h
theorem WG.bs {s : Row} (hW : WG s) {e : Nat} (h0 : 0 < e) (he : e < nE s) (a : Nat) : bal s e a = bal s (pa s e) a + ctr s e a := bal_sp (n := nE s) (fun e h0 he => hW.pl h0 he) h0 he a
theorem fg_WG {s : Row} (hW : WF s) {e : Nat} {a : Int32} (h0 : 0 ≤ a.toInt) (h9 : a.toInt ≤ 999) : WG (fgS s e a) := by
  have hn60 := hW.n60
  exact ⟨by rw [fg_n]; exact hn60, fun x hx => fg_e hW h0 h9 x (by rw [fg_n] at hx; exact hx)⟩
