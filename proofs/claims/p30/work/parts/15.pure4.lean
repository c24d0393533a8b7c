theorem XR_seal {s c : Row} (hR : XR s c) (hW : WF s) (hn : nS s < 8) : XR (sealS s) (xsealS s c) := by
  have hb10 := hW.b10
  have hn60 := hW.n60
  have A : ∀ i, i ≠ 4 → i < 465 → sealS s i = s i := fun i h1 h2 => by unfold sealS; repeat rw [pk_un (by omega)]
  have B : ∀ i, i ≠ 4 → i < 475 → xsealS s c i = c i := fun i h1 h2 => by unfold xsealS; repeat rw [pk_un (by omega)]
  have hnb : nB (sealS s) = nB s := by unfold nB; rw [A 2 (by omega) (by omega)]
  refine ⟨⟨?_, ?_, ?_, ?_, ?_⟩, fun e he => ?_, fun b hb => ?_, fun b hb => ?_, fun j hj => ?_⟩
  · rw [A 0 (by omega) (by omega), B 0 (by omega) (by omega)]; exact hR.n
  · rw [A 1 (by omega) (by omega), B 1 (by omega) (by omega)]; exact hR.h
  · rw [A 3 (by omega) (by omega), B 2 (by omega) (by omega)]; exact hR.pt
  · rw [A 2 (by omega) (by omega), B 3 (by omega) (by omega)]; exact hR.b
  · unfold sealS xsealS; rw [pk_us, pk_us]
  · unfold me
    rw [A _ (by omega) (by omega), A _ (by omega) (by omega), A _ (by omega) (by omega), A _ (by omega) (by omega), A _ (by omega) (by omega), A _ (by omega) (by omega), A _ (by omega) (by omega), B _ (by omega) (by omega), B _ (by omega) (by omega), B _ (by omega) (by omega), B _ (by omega) (by omega), B _ (by omega) (by omega), B _ (by omega) (by omega), B _ (by omega) (by omega)]
    exact hR.2.1 e he
  · unfold mb
    rw [A _ (by omega) (by omega), A _ (by omega) (by omega), A _ (by omega) (by omega), A _ (by omega) (by omega), B _ (by omega) (by omega), B _ (by omega) (by omega), B _ (by omega) (by omega), B _ (by omega) (by omega)]
    exact hR.2.2.1 b hb
  · rw [hnb] at hb
    have e2 : lf (sealS s) b = lf s b := by unfold lf mb; rw [A _ (by omega) (by omega)]
    have e3 : mn (sealS s) b = mn s b := by unfold mn mb; rw [A _ (by omega) (by omega)]
    have e1 : brE (sealS s) b 0 = brE s b 0 := by
      unfold brE
      rw [e2, e3]
      refine up_same2 hW (fun e he j hj => A _ (by omega) (by omega)) (hW.lfl hb) ?_
      have h1 := hW.mnd hb
      omega
    rw [e1, B _ (by omega) (by omega)]
    exact hR.fst hb
  · unfold msl
    by_cases hj0 : j = nS s
    · subst hj0
      unfold sealS xsealS
      refine ⟨?_, ?_⟩ <;> (repeat first | rw [pk_us] | rw [pk_un (by omega)])
    · have h1 := hR.2.2.2.2 j hj
      unfold msl at h1
      unfold sealS xsealS
      refine ⟨?_, ?_⟩
      · repeat rw [pk_un (by omega)]
        exact h1.1
      · repeat rw [pk_un (by omega)]
        exact h1.2
theorem WF_seal {s : Row} (hW : WF s) (hn : nS s < 8) : WF (sealS s) := by
  have hb10 := hW.b10
  have hn60 := hW.n60
  have A : ∀ i, i ≠ 4 → i < 465 → sealS s i = s i := fun i h1 h2 => by unfold sealS; repeat rw [pk_un (by omega)]
  have e0 : nE (sealS s) = nE s := by unfold nE; rw [A 0 (by omega) (by omega)]
  have e1 : hE (sealS s) = hE s := by unfold hE; rw [A 1 (by omega) (by omega)]
  have e2 : nB (sealS s) = nB s := by unfold nB; rw [A 2 (by omega) (by omega)]
  have e40 : sealS s 4 = nI (nS s + 1) := by unfold sealS; rw [pk_us]
  have e4 : nS (sealS s) = nS s + 1 := by unfold nS; rw [e40]; exact nI_clamp (by omega)
  have hSE : SE s (sealS s) := fun e he j hj => A _ (by omega) (by omega)
  refine ⟨⟨by rw [e0, A 0 (by omega) (by omega)]; exact hW.n, by rw [e0]; exact hW.n1, by rw [e0]; exact hn60⟩, ⟨by rw [e1, A 1 (by omega) (by omega)]; exact hW.h, by rw [e1, e0]; exact hW.hn⟩, ⟨by rw [e2, A 2 (by omega) (by omega)]; exact hW.b, by rw [e2]; exact hb10⟩, ⟨by rw [e4, e40], by omega⟩, by rw [hSE 0 hW.n1 1 (by omega)]; exact hW.k0, fun e he => ?_, fun b hb => ?_, fun k hk => ?_, fun e he a ha => ?_⟩
  · rw [e0] at he; exact WFe_same hSE he (hW.e he)
  · rw [e2] at hb
    have q0 : mb (sealS s) b 0 = mb s b 0 := A _ (by omega) (by omega)
    have q1 : mb (sealS s) b 1 = mb s b 1 := A _ (by omega) (by omega)
    have el : lf (sealS s) b = lf s b := by unfold lf; rw [q0]
    have em : mn (sealS s) b = mn s b := by unfold mn; rw [q1]
    obtain ⟨b1, b2, b3, b4, b5⟩ := hW.br hb
    exact ⟨by rw [q0, el]; exact b1, by rw [el, e0]; omega, by rw [q1, em]; exact b3, by rw [em]; exact b4, by rw [em, el, dep_same hW hSE b2]; exact b5⟩
  · rw [e4] at hk
    have hh := hW.hn
    by_cases hj0 : k = nS s
    · subst hj0
      have q0 : msl (sealS s) (nS s) 0 = nI (hE s) := by
        unfold msl sealS
        rw [pk_un (by omega), pk_un (by omega), pk_us]
      have es : sE (sealS s) (nS s) = hE s := by unfold sE; rw [q0]; exact nI_clamp (by omega)
      exact ⟨by rw [q0, es], by rw [es, e0]; exact hh⟩
    · have q0 : msl (sealS s) k 0 = msl s k 0 := by
        unfold msl sealS
        repeat rw [pk_un (by omega)]
      have es : sE (sealS s) k = sE s k := by unfold sE; rw [q0]
      obtain ⟨k1, k2⟩ := hW.se (k := k) (by omega)
      exact ⟨by rw [q0, es]; exact k1, by rw [es, e0]; exact k2⟩
  · rw [e0] at he; rw [bal_same hW hSE he]; exact hW.ok he ha
theorem branchS_at {s : Row} {L N i : Nat} (h2 : i ≠ 2) (h : i < 425 + 4 * nB s ∨ 425 + 4 * nB s + 4 ≤ i) : branchS s L N i = s i := by
  unfold branchS
  repeat rw [pk_un (by omega)]
theorem xbranchS_at {s c : Row} {L N F i : Nat} (h2 : i ≠ 3) (h : i < 425 + nB s * 5 ∨ 425 + nB s * 5 + 5 ≤ i) : xbranchS s c L N F i = c i := by
  unfold xbranchS
  repeat rw [pk_un (by omega)]
theorem branchS_new (s : Row) (L N : Nat) : mb (branchS s L N) (nB s) 0 = nI L ∧ mb (branchS s L N) (nB s) 1 = nI N ∧ mb (branchS s L N) (nB s) 2 = nI 0 ∧ mb (branchS s L N) (nB s) 3 = nI 0 ∧ branchS s L N 2 = nI (nB s + 1) := by
  unfold mb branchS
  refine ⟨?_, ?_, ?_, ?_, ?_⟩ <;> (repeat first | rw [pk_us] | rw [pk_un (by omega)])
theorem SE_branch {s : Row} (hW : WF s) {L N : Nat} : SE s (branchS s L N) := fun e he j hj => branchS_at (by omega) (by have := hW.n60; omega)
theorem XR_branch {s c : Row} (hR : XR s c) (hW : WF s) (hn : nB s < 10) {L N : Nat} (hL : L < nE s) (hN1 : 1 ≤ N) (hN : N < dep s L) : XR (branchS s L N) (xbranchS s c L N (up s L (N - 1))) := by
  have hn60 := hW.n60
  have hs8 := hW.s8
  have hSE := SE_branch hW (L := L) (N := N)
  obtain ⟨g0, g1, g2, g3, g4⟩ := branchS_new s L N
  have hdl := dep_le hW L hL
  have eL : lf (branchS s L N) (nB s) = L := by unfold lf; rw [g0]; exact nI_clamp (by omega)
  have eN : mn (branchS s L N) (nB s) = N := by unfold mn; rw [g1]; exact nI_clamp (by omega)
  have hnb : nB (branchS s L N) = nB s + 1 := by unfold nB; rw [g4]; exact nI_clamp (by omega)
  have A : ∀ e j, e < 60 → j < 7 → me (branchS s L N) e j = me s e j := fun e j he hj => branchS_at (by omega) (by omega)
  have B : ∀ e j, e < 60 → j < 7 → xbranchS s c L N (up s L (N - 1)) (5 + e * 7 + j) = c (5 + e * 7 + j) := fun e j he hj => xbranchS_at (by omega) (by omega)
  refine ⟨⟨?_, ?_, ?_, ?_, ?_⟩, fun e he => ?_, fun b hb => ?_, fun b hb => ?_, fun j hj => ?_⟩
  · rw [branchS_at (by omega) (by omega), xbranchS_at (by omega) (by omega)]; exact hR.n
  · rw [branchS_at (by omega) (by omega), xbranchS_at (by omega) (by omega)]; exact hR.h
  · rw [branchS_at (by omega) (by omega), xbranchS_at (by omega) (by omega)]; exact hR.pt
  · rw [g4]; unfold xbranchS; rw [pk_us]
  · rw [branchS_at (by omega) (by omega), xbranchS_at (by omega) (by omega)]; exact hR.s
  · rw [A e 0 he (by omega), A e 1 he (by omega), A e 2 he (by omega), A e 3 he (by omega), A e 4 he (by omega), A e 5 he (by omega), A e 6 he (by omega), B e 0 he (by omega), B e 1 he (by omega), B e 2 he (by omega), B e 3 he (by omega), B e 4 he (by omega), B e 5 he (by omega), B e 6 he (by omega)]
    exact hR.2.1 e he
  · by_cases hb0 : b = nB s
    · subst hb0
      rw [g0, g1, g2, g3]
      unfold xbranchS
      refine ⟨?_, ?_, ?_, ?_⟩ <;> (repeat first | rw [pk_us] | rw [pk_un (by omega)])
    · unfold mb
      rw [branchS_at (by omega) (by omega), branchS_at (by omega) (by omega), branchS_at (by omega) (by omega), branchS_at (by omega) (by omega), xbranchS_at (by omega) (by omega), xbranchS_at (by omega) (by omega), xbranchS_at (by omega) (by omega), xbranchS_at (by omega) (by omega)]
      exact hR.2.2.1 b hb
  · rw [hnb] at hb
    by_cases hb0 : b = nB s
    · subst hb0
      have e1 : brE (branchS s L N) (nB s) 0 = up s L (N - 1) := by
        unfold brE
        rw [eL, eN, Nat.sub_zero]
        exact up_same2 hW hSE hL (by omega)
      rw [e1]
      unfold xbranchS
      repeat first | rw [pk_us] | rw [pk_un (by omega)]
    · have e2 : lf (branchS s L N) b = lf s b := by unfold lf mb; rw [branchS_at (by omega) (by omega)]
      have e3 : mn (branchS s L N) b = mn s b := by unfold mn mb; rw [branchS_at (by omega) (by omega)]
      have e1 : brE (branchS s L N) b 0 = brE s b 0 := by
        unfold brE
        rw [e2, e3]
        refine up_same2 hW hSE (hW.lfl (by omega)) ?_
        have h1 := hW.mnd (b := b) (by omega)
        omega
      rw [e1, xbranchS_at (by omega) (by omega)]
      exact hR.fst (by omega)
  · unfold msl
    rw [branchS_at (by omega) (by omega), branchS_at (by omega) (by omega), xbranchS_at (by omega) (by omega), xbranchS_at (by omega) (by omega)]
    exact hR.2.2.2.2 j hj
/-! the slots of the snapshots; the whole state of a call -/
def sh (f : Row) (o : Nat) : Row := fun i => f (o + i)
def slotOK (s c : Row) (j : Nat) : Prop := (s (1443 + j) = 0 ∧ c ((1 + j) * 491 + 0) = 0) ∨ (s (1443 + j) = 1 ∧ XR (sh s (481 + 481 * j)) (sh c ((1 + j) * 491)) ∧ WF (sh s (481 + 481 * j)))
def FS (s c : Row) : Prop := XR s c ∧ WF s ∧ slotOK s c 0 ∧ slotOK s c 1
def emptyB (s : Row) (j : Nat) : Bool := decide (s (1443 + j) = 0)
theorem FS.slot {s c : Row} (h : FS s c) {j : Nat} (hj : j < 2) : slotOK s c j := by
  rcases (show j = 0 ∨ j = 1 by omega) with rfl | rfl
  · exact h.2.2.1
  · exact h.2.2.2
theorem slot_e {s c : Row} {j : Nat} (h : slotOK s c j) : decide (c ((1 + j) * 491 + 0) = 0) = emptyB s j := by
  unfold emptyB
  rcases h with ⟨h1, h2⟩ | ⟨h1, h2, h3⟩
  · rw [h1, h2]
  · have e1 := h2.nn h3
    have e2 : c ((1 + j) * 491 + 0) = nI (nE (sh s (481 + 481 * j))) := e1
    have n1 := h3.n1
    have n60 := h3.n60
    rw [h1, e2, decide_eq_false (nI_ne0 (by omega) (by omega)), decide_eq_false (by decide)]
theorem slot_keep {s s' c c' : Row} {j : Nat} (hj : j < 2) (h : slotOK s c j) (hS : KS s s') (hX : KX c c') : slotOK s' c' j := by
  have e1 : s' (1443 + j) = s (1443 + j) := hS _ (by omega)
  have e2 : c' ((1 + j) * 491 + 0) = c ((1 + j) * 491 + 0) := hX _ (by omega)
  have e3 : sh s' (481 + 481 * j) = sh s (481 + 481 * j) := by funext i; exact hS _ (by omega)
  have e4 : sh c' ((1 + j) * 491) = sh c ((1 + j) * 491) := by funext i; exact hX _ (by omega)
  unfold slotOK
  rw [e1, e2, e3, e4]
  exact h
theorem FS.keep {s s' c c' : Row} (h : FS s c) (hS : KS s s') (hX : KX c c') (hR : XR s' c') (hW : WF s') : FS s' c' :=
  ⟨hR, hW, slot_keep (by omega) h.2.2.1 hS hX, slot_keep (by omega) h.2.2.2 hS hX⟩
theorem snap_sum {s c : Row} (h : FS s c) : nI (cntF (fun j => !emptyB s j) 2) = s 1443 + s 1444 := by
  have key : ∀ j, j < 2 → s (1443 + j) = (if (!emptyB s j) = true then nI 1 else nI 0) := by
    intro j hj
    unfold emptyB
    rcases h.slot hj with ⟨h1, -⟩ | ⟨h1, -⟩
    · rw [h1]; rfl
    · rw [h1]; rfl
  have k0 := key 0 (by omega)
  have k1 := key 1 (by omega)
  rw [show s 1443 = _ from k0, show s 1444 = _ from k1]
  simp only [cntF]
  have d : ∀ x y : Bool, nI ((0 + if (!x) = true then 1 else 0) + if (!y) = true then 1 else 0) = (if (!x) = true then nI 1 else nI 0) + if (!y) = true then nI 1 else nI 0 := by intro x y; cases x <;> cases y <;> rfl
  exact d _ _
