/-! one cell of the state changes -/
theorem upd2 {s c : Row} {i i' j j' : Nat} {v : Int32} (h : c j' = s j) (hij : j = i ↔ j' = i') : upd c i' v j' = upd s i v j := by
  by_cases e : j = i
  · rw [hij.mp e, e, pk_us, pk_us]
  · rw [pk_un e, pk_un (fun z => e (hij.mpr z)), h]
theorem up_same3 {s s' : Row} (hW : WF s) (h : ∀ e, 0 < e → e < nE s → me s' e 0 = me s e 0) {k e : Nat} (he : e < nE s) (hk : k < dep s e) : up s' e k = up s e k :=
  up_same hW (fun e h0 he => by unfold pa; rw [h e h0 he]) k e he hk
theorem brE_same {s s' : Row} (hW : WF s) (h : ∀ e, 0 < e → e < nE s → me s' e 0 = me s e 0) {b k : Nat} (hb : b < nB s) (hk : k < mn s b) (h0 : mb s' b 0 = mb s b 0) (h1 : mb s' b 1 = mb s b 1) : brE s' b k = brE s b k := by
  have e2 : lf s' b = lf s b := by unfold lf; rw [h0]
  have e3 : mn s' b = mn s b := by unfold mn; rw [h1]
  unfold brE
  rw [e2, e3]
  have h2 := hW.mnd hb
  exact up_same3 hW h (hW.lfl hb) (by omega)
theorem XR_pat {s c : Row} (hR : XR s c) (hW : WF s)   (v : Int32) : XR (upd s (3) v) (upd c (2) v) := by
  have hb10 := hW.b10
  have hn60 := hW.n60
  refine ⟨⟨upd2 hR.n (by omega), upd2 hR.h (by omega), upd2 hR.pt (by omega), upd2 hR.b (by omega), upd2 hR.s (by omega)⟩, fun e he => ⟨upd2 (hR.xkd he) (by omega), upd2 (hR.xa1 he) (by omega), upd2 (hR.xa2 he) (by omega), upd2 (hR.xam he) (by omega), upd2 (hR.p he) (by omega), upd2 (hR.l he) (by omega), upd2 (hR.o he) (by omega)⟩, fun b hb => ⟨upd2 (hR.xlf hb) (by omega), upd2 (hR.xmn hb) (by omega), upd2 (hR.pl hb) (by omega), upd2 (hR.st hb) (by omega)⟩, fun b hb => ?_, fun k hk => ⟨upd2 (hR.se hk) (by omega), upd2 (hR.sl hk) (by omega)⟩⟩
  have e2 : nB (upd s (3) v) = nB s := by unfold nB; rw [pk_un (by omega)]
  rw [e2] at hb
  have hm := hW.mn1 hb
  rw [brE_same hW (fun e h0 he => pk_un (by omega)) hb (by omega) (pk_un (by omega)) (pk_un (by omega)), pk_un (by omega)]
  exact hR.fst hb
theorem XR_head {s c : Row} (hR : XR s c) (hW : WF s)   (v : Int32) : XR (upd s (1) v) (upd c (1) v) := by
  have hb10 := hW.b10
  have hn60 := hW.n60
  refine ⟨⟨upd2 hR.n (by omega), upd2 hR.h (by omega), upd2 hR.pt (by omega), upd2 hR.b (by omega), upd2 hR.s (by omega)⟩, fun e he => ⟨upd2 (hR.xkd he) (by omega), upd2 (hR.xa1 he) (by omega), upd2 (hR.xa2 he) (by omega), upd2 (hR.xam he) (by omega), upd2 (hR.p he) (by omega), upd2 (hR.l he) (by omega), upd2 (hR.o he) (by omega)⟩, fun b hb => ⟨upd2 (hR.xlf hb) (by omega), upd2 (hR.xmn hb) (by omega), upd2 (hR.pl hb) (by omega), upd2 (hR.st hb) (by omega)⟩, fun b hb => ?_, fun k hk => ⟨upd2 (hR.se hk) (by omega), upd2 (hR.sl hk) (by omega)⟩⟩
  have e2 : nB (upd s (1) v) = nB s := by unfold nB; rw [pk_un (by omega)]
  rw [e2] at hb
  have hm := hW.mn1 hb
  rw [brE_same hW (fun e h0 he => pk_un (by omega)) hb (by omega) (pk_un (by omega)) (pk_un (by omega)), pk_un (by omega)]
  exact hR.fst hb
theorem XR_st {s c : Row} (hR : XR s c) (hW : WF s) {b0 : Nat} (hb0 : b0 < 10) (v : Int32) : XR (upd s (425 + 4 * b0 + 3) v) (upd c (425 + b0 * 5 + 4) v) := by
  have hb10 := hW.b10
  have hn60 := hW.n60
  refine ⟨⟨upd2 hR.n (by omega), upd2 hR.h (by omega), upd2 hR.pt (by omega), upd2 hR.b (by omega), upd2 hR.s (by omega)⟩, fun e he => ⟨upd2 (hR.xkd he) (by omega), upd2 (hR.xa1 he) (by omega), upd2 (hR.xa2 he) (by omega), upd2 (hR.xam he) (by omega), upd2 (hR.p he) (by omega), upd2 (hR.l he) (by omega), upd2 (hR.o he) (by omega)⟩, fun b hb => ⟨upd2 (hR.xlf hb) (by omega), upd2 (hR.xmn hb) (by omega), upd2 (hR.pl hb) (by omega), upd2 (hR.st hb) (by omega)⟩, fun b hb => ?_, fun k hk => ⟨upd2 (hR.se hk) (by omega), upd2 (hR.sl hk) (by omega)⟩⟩
  have e2 : nB (upd s (425 + 4 * b0 + 3) v) = nB s := by unfold nB; rw [pk_un (by omega)]
  rw [e2] at hb
  have hm := hW.mn1 hb
  rw [brE_same hW (fun e h0 he => pk_un (by omega)) hb (by omega) (pk_un (by omega)) (pk_un (by omega)), pk_un (by omega)]
  exact hR.fst hb
theorem XR_am {s c : Row} (hR : XR s c) (hW : WF s) {e0 : Nat} (he0 : e0 < 60) (v : Int32) : XR (upd s (5 + 7 * e0 + 4) v) (upd c (5 + e0 * 7 + 3) v) := by
  have hb10 := hW.b10
  have hn60 := hW.n60
  refine ⟨⟨upd2 hR.n (by omega), upd2 hR.h (by omega), upd2 hR.pt (by omega), upd2 hR.b (by omega), upd2 hR.s (by omega)⟩, fun e he => ⟨upd2 (hR.xkd he) (by omega), upd2 (hR.xa1 he) (by omega), upd2 (hR.xa2 he) (by omega), upd2 (hR.xam he) (by omega), upd2 (hR.p he) (by omega), upd2 (hR.l he) (by omega), upd2 (hR.o he) (by omega)⟩, fun b hb => ⟨upd2 (hR.xlf hb) (by omega), upd2 (hR.xmn hb) (by omega), upd2 (hR.pl hb) (by omega), upd2 (hR.st hb) (by omega)⟩, fun b hb => ?_, fun k hk => ⟨upd2 (hR.se hk) (by omega), upd2 (hR.sl hk) (by omega)⟩⟩
  have e2 : nB (upd s (5 + 7 * e0 + 4) v) = nB s := by unfold nB; rw [pk_un (by omega)]
  rw [e2] at hb
  have hm := hW.mn1 hb
  rw [brE_same hW (fun e h0 he => pk_un (by omega)) hb (by omega) (pk_un (by omega)) (pk_un (by omega)), pk_un (by omega)]
  exact hR.fst hb
theorem XR_lk {s c : Row} (hR : XR s c) (hW : WF s) {e0 : Nat} (he0 : e0 < 60) (v : Int32) : XR (upd s (5 + 7 * e0 + 5) v) (upd c (5 + e0 * 7 + 5) v) := by
  have hb10 := hW.b10
  have hn60 := hW.n60
  refine ⟨⟨upd2 hR.n (by omega), upd2 hR.h (by omega), upd2 hR.pt (by omega), upd2 hR.b (by omega), upd2 hR.s (by omega)⟩, fun e he => ⟨upd2 (hR.xkd he) (by omega), upd2 (hR.xa1 he) (by omega), upd2 (hR.xa2 he) (by omega), upd2 (hR.xam he) (by omega), upd2 (hR.p he) (by omega), upd2 (hR.l he) (by omega), upd2 (hR.o he) (by omega)⟩, fun b hb => ⟨upd2 (hR.xlf hb) (by omega), upd2 (hR.xmn hb) (by omega), upd2 (hR.pl hb) (by omega), upd2 (hR.st hb) (by omega)⟩, fun b hb => ?_, fun k hk => ⟨upd2 (hR.se hk) (by omega), upd2 (hR.sl hk) (by omega)⟩⟩
  have e2 : nB (upd s (5 + 7 * e0 + 5) v) = nB s := by unfold nB; rw [pk_un (by omega)]
  rw [e2] at hb
  have hm := hW.mn1 hb
  rw [brE_same hW (fun e h0 he => pk_un (by omega)) hb (by omega) (pk_un (by omega)) (pk_un (by omega)), pk_un (by omega)]
  exact hR.fst hb
theorem WF_pat {s : Row} (hW : WF s) (v : Int32) : WF (upd s 3 v) := by
  have hb10 := hW.b10
  have hn60 := hW.n60
  exact WF_same hW (pk_un (by omega)) (pk_un (by omega)) (pk_un (by omega)) (pk_un (by omega)) (fun e he j hj => pk_un (by omega)) (fun b hb => ⟨pk_un (by omega), pk_un (by omega)⟩) (fun k hk => pk_un (by omega))
theorem WF_st {s : Row} (hW : WF s) {b0 : Nat} (hb0 : b0 < 10) (v : Int32) : WF (upd s (425 + 4 * b0 + 3) v) := by
  have hb10 := hW.b10
  have hn60 := hW.n60
  exact WF_same hW (pk_un (by omega)) (pk_un (by omega)) (pk_un (by omega)) (pk_un (by omega)) (fun e he j hj => pk_un (by omega)) (fun b hb => ⟨pk_un (by omega), pk_un (by omega)⟩) (fun k hk => pk_un (by omega))
theorem WF_lk {s : Row} (hW : WF s) {e0 : Nat} (he0 : e0 < 60) (v : Int32) : WF (upd s (5 + 7 * e0 + 5) v) := by
  have hb10 := hW.b10
  have hn60 := hW.n60
  exact WF_same hW (pk_un (by omega)) (pk_un (by omega)) (pk_un (by omega)) (pk_un (by omega)) (fun e he j hj => pk_un (by omega)) (fun b hb => ⟨pk_un (by omega), pk_un (by omega)⟩) (fun k hk => pk_un (by omega))
/-- another head -/
theorem WF_head {s : Row} (hW : WF s) {e0 : Nat} (he0 : e0 < nE s) : WF (upd s 1 (nI e0)) := by
  have hb10 := hW.b10
  have hn60 := hW.n60
  have hs8 := hW.s8
  have A : ∀ i, i ≠ 1 → upd s 1 (nI e0) i = s i := fun i h => pk_un h
  generalize hs : upd s 1 (nI e0) = s' at *
  have e0' : nE s' = nE s := by unfold nE; rw [A 0 (by omega)]
  have h1 : s' 1 = nI e0 := by rw [← hs, pk_us]
  have e1 : hE s' = e0 := by unfold hE; rw [h1]; exact nI_clamp (by omega)
  have e2 : nB s' = nB s := by unfold nB; rw [A 2 (by omega)]
  have e4 : nS s' = nS s := by unfold nS; rw [A 4 (by omega)]
  have hSE : SE s s' := fun e he j hj => A _ (by omega)
  refine ⟨⟨by rw [e0', A 0 (by omega)]; exact hW.n, by rw [e0']; exact hW.n1, by rw [e0']; exact hn60⟩, ⟨by rw [e1, h1], by rw [e1, e0']; exact he0⟩, ⟨by rw [e2, A 2 (by omega)]; exact hW.b, by rw [e2]; exact hb10⟩, ⟨by rw [e4, A 4 (by omega)]; exact hW.s, by rw [e4]; exact hs8⟩, by rw [hSE 0 hW.n1 1 (by omega)]; exact hW.k0, fun e he => ?_, fun b hb => ?_, fun k hk => ?_, fun e he a ha => ?_⟩
  · rw [e0'] at he; exact WFe_same hSE he (hW.e he)
  · rw [e2] at hb
    have q0 : mb s' b 0 = mb s b 0 := A _ (by omega)
    have q1 : mb s' b 1 = mb s b 1 := A _ (by omega)
    have el : lf s' b = lf s b := by unfold lf; rw [q0]
    have em : mn s' b = mn s b := by unfold mn; rw [q1]
    obtain ⟨b1, b2, b3, b4, b5⟩ := hW.br hb
    exact ⟨by rw [q0, el]; exact b1, by rw [el, e0']; exact b2, by rw [q1, em]; exact b3, by rw [em]; exact b4, by rw [em, el, dep_same hW hSE b2]; exact b5⟩
  · rw [e4] at hk
    have q0 : msl s' k 0 = msl s k 0 := A _ (by omega)
    have es : sE s' k = sE s k := by unfold sE; rw [q0]
    obtain ⟨k1, k2⟩ := hW.se hk
    exact ⟨by rw [q0, es]; exact k1, by rw [es, e0']; exact k2⟩
  · rw [e0'] at he; rw [bal_same hW hSE he]; exact hW.ok he ha
theorem WF_branch {s : Row} (hW : WF s) (hn : nB s < 10) {L N : Nat} (hL : L < nE s) (hN1 : 1 ≤ N) (hN : N < dep s L) : WF (branchS s L N) := by
  have hn60 := hW.n60
  have hs8 := hW.s8
  have hSE := SE_branch hW (L := L) (N := N)
  obtain ⟨g0, g1, g2, g3, g4⟩ := branchS_new s L N
  have hdl := dep_le hW L hL
  have eL : lf (branchS s L N) (nB s) = L := by unfold lf; rw [g0]; exact nI_clamp (by omega)
  have eN : mn (branchS s L N) (nB s) = N := by unfold mn; rw [g1]; exact nI_clamp (by omega)
  have e2 : nB (branchS s L N) = nB s + 1 := by unfold nB; rw [g4]; exact nI_clamp (by omega)
  have e0 : nE (branchS s L N) = nE s := by unfold nE; rw [branchS_at (by omega) (by omega)]
  have e1 : hE (branchS s L N) = hE s := by unfold hE; rw [branchS_at (by omega) (by omega)]
  have e4 : nS (branchS s L N) = nS s := by unfold nS; rw [branchS_at (by omega) (by omega)]
  refine ⟨⟨by rw [e0, branchS_at (by omega) (by omega)]; exact hW.n, by rw [e0]; exact hW.n1, by rw [e0]; exact hn60⟩, ⟨by rw [e1, branchS_at (by omega) (by omega)]; exact hW.h, by rw [e1, e0]; exact hW.hn⟩, ⟨by rw [e2, g4], by omega⟩, ⟨by rw [e4, branchS_at (by omega) (by omega)]; exact hW.s, by rw [e4]; exact hs8⟩, by rw [hSE 0 hW.n1 1 (by omega)]; exact hW.k0, fun e he => ?_, fun b hb => ?_, fun k hk => ?_, fun e he a ha => ?_⟩
  · rw [e0] at he; exact WFe_same hSE he (hW.e he)
  · rw [e2] at hb
    by_cases hb0 : b = nB s
    · subst hb0
      exact ⟨by rw [g0, eL], by rw [eL, e0]; exact hL, by rw [g1, eN], by rw [eN]; exact hN1, by rw [eN, eL, dep_same hW hSE hL]; exact hN⟩
    · have q0 : mb (branchS s L N) b 0 = mb s b 0 := branchS_at (by omega) (by omega)
      have q1 : mb (branchS s L N) b 1 = mb s b 1 := branchS_at (by omega) (by omega)
      have el : lf (branchS s L N) b = lf s b := by unfold lf; rw [q0]
      have em : mn (branchS s L N) b = mn s b := by unfold mn; rw [q1]
      obtain ⟨b1, b2, b3, b4, b5⟩ := hW.br (b := b) (by omega)
      exact ⟨by rw [q0, el]; exact b1, by rw [el, e0]; exact b2, by rw [q1, em]; exact b3, by rw [em]; exact b4, by rw [em, el, dep_same hW hSE b2]; exact b5⟩
  · rw [e4] at hk
    have q0 : msl (branchS s L N) k 0 = msl s k 0 := branchS_at (by omega) (by omega)
    have es : sE (branchS s L N) k = sE s k := by unfold sE; rw [q0]
    obtain ⟨k1, k2⟩ := hW.se hk
    exact ⟨by rw [q0, es]; exact k1, by rw [es, e0]; exact k2⟩
  · rw [e0] at he; rw [bal_same hW hSE he]; exact hW.ok he ha
/-- an entry on a path is at most as deep, and less where it is another one -/
theorem dep_on {s : Row} (hW : WF s) {x : Nat} : ∀ {y : Nat}, y < nE s → onP s x y = true → x ≤ y ∧ dep s x ≤ dep s y ∧ (x ≠ y → dep s x < dep s y) := by
  intro y
  induction y using Nat.strongRecOn with
  | ind y ih =>
    intro hy h
    by_cases hxy : y ≤ x
    · rw [onP_le hxy] at h
      have e := of_decide_eq_true h
      subst e
      exact ⟨Nat.le_refl _, Nat.le_refl _, fun z => absurd rfl z⟩
    · rw [onP_s hW (by omega) hy] at h
      have hp := hW.pl (e := y) (by omega) hy
      obtain ⟨h1, h2, h3⟩ := ih _ hp (by omega) h
      have h4 := dep_s hW (e := y) (by omega) hy
      exact ⟨by omega, by omega, fun _ => by omega⟩
theorem dep_ge1 (s : Row) (e : Nat) : 1 ≤ dep s e := dep_pos e e

