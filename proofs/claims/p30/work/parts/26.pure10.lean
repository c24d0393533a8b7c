/-! states that agree on the kept cells; snapshots -/
theorem XR_cong {s c s' c' : Row} (hW : WF s) (hS : ∀ i, i < 481 → s' i = s i) (hX : ∀ i, i < 491 → c' i = c i) (hR : XR s c) : XR s' c' := by
  have hb10 := hW.b10
  have hn60 := hW.n60
  obtain ⟨h1, h2, h3, h4, h5⟩ := hR
  have e2 : nB s' = nB s := by unfold nB; rw [hS 2 (by omega)]
  refine ⟨?_, fun e he => ?_, fun b hb => ?_, fun b hb => ?_, fun k hk => ?_⟩
  · rw [hX 0 (by omega), hX 1 (by omega), hX 2 (by omega), hX 3 (by omega), hX 4 (by omega), hS 0 (by omega), hS 1 (by omega), hS 3 (by omega), hS 2 (by omega), hS 4 (by omega)]; exact h1
  · unfold me
    rw [hX _ (by omega), hX _ (by omega), hX _ (by omega), hX _ (by omega), hX _ (by omega), hX _ (by omega), hX _ (by omega), hS _ (by omega), hS _ (by omega), hS _ (by omega), hS _ (by omega), hS _ (by omega), hS _ (by omega), hS _ (by omega)]
    exact h2 e he
  · unfold mb
    rw [hX _ (by omega), hX _ (by omega), hX _ (by omega), hX _ (by omega), hS _ (by omega), hS _ (by omega), hS _ (by omega), hS _ (by omega)]
    exact h3 b hb
  · rw [e2] at hb
    have hm := hW.mn1 hb
    rw [brE_same hW (fun e h0 he => hS _ (by omega)) hb (by omega) (hS _ (by omega)) (hS _ (by omega)), hX _ (by omega)]
    exact h4 b hb
  · unfold msl
    rw [hX _ (by omega), hX _ (by omega), hS _ (by omega), hS _ (by omega)]
    exact h5 k hk
theorem WF_cong {s s' : Row} (hW : WF s) (hS : ∀ i, i < 481 → s' i = s i) : WF s' := by
  have hb10 := hW.b10
  have hn60 := hW.n60
  have hs8 := hW.s8
  exact WF_same hW (hS _ (by omega)) (hS _ (by omega)) (hS _ (by omega)) (hS _ (by omega)) (fun e he j hj => hS _ (by omega)) (fun b hb => ⟨hS _ (by omega), hS _ (by omega)⟩) (fun k hk => hS _ (by omega))
theorem slot_keep2 {s s' c c' : Row} {j : Nat} (h : slotOK s c j) (h1 : s' (1443 + j) = s (1443 + j)) (hS : ∀ i, i < 481 → s' (481 + 481 * j + i) = s (481 + 481 * j + i)) (hX : ∀ i, i < 491 → c' ((1 + j) * 491 + i) = c ((1 + j) * 491 + i)) : slotOK s' c' j := by
  unfold slotOK
  rw [h1]
  rcases h with ⟨g1, g2⟩ | ⟨g1, g2, g3⟩
  · exact Or.inl ⟨g1, by rw [hX 0 (by omega)]; exact g2⟩
  · exact Or.inr ⟨g1, XR_cong g3 (fun i hi => hS i hi) (fun i hi => hX i hi) g2, WF_cong g3 (fun i hi => hS i hi)⟩
theorem tkS_at {s : Row} {j i : Nat} (hj : j < 2) (h : i ≠ 1443 + j) (h2 : i < 481 + 481 * j ∨ 481 + 481 * j + 481 ≤ i) : tkS s (nI j) i = s i := by
  unfold tkS
  rw [cl_n (by omega), pk_un h, pk_cpy_out h2]
theorem FS_tk {s c : Row} (hF : FS s c) {j : Nat} (hj : j < 2) : FS (tkS s (nI j)) (va_cpy c c 0 ((1 + j) * 491) 491) := by
  obtain ⟨hR, hW, -, -⟩ := id hF
  have hA : ∀ i, i < 481 → tkS s (nI j) i = s i := fun i hi => tkS_at hj (by omega) (by omega)
  have hB : ∀ i, i < 491 → va_cpy c c 0 ((1 + j) * 491) 491 i = c i := fun i hi => pk_cpy_out (by omega)
  have key : ∀ j', j' < 2 → slotOK (tkS s (nI j)) (va_cpy c c 0 ((1 + j) * 491) 491) j' := by
    intro j' hj'
    by_cases e : j' = j
    · subst e
      refine Or.inr ⟨by unfold tkS; rw [cl_n (by omega), pk_us]; rfl, XR_cong hW (fun i hi => ?_) (fun i hi => ?_) hR, WF_cong hW (fun i hi => ?_)⟩
      · show tkS s (nI j') (481 + 481 * j' + i) = s i
        unfold tkS
        rw [cl_n (by omega), pk_un (by omega), pk_cpy_in (by omega) (by omega)]
        congr 1; omega
      · show va_cpy c c 0 ((1 + j') * 491) 491 ((1 + j') * 491 + i) = c i
        rw [pk_cpy_in (by omega) (by omega)]
        congr 1; omega
      · show tkS s (nI j') (481 + 481 * j' + i) = s i
        unfold tkS
        rw [cl_n (by omega), pk_un (by omega), pk_cpy_in (by omega) (by omega)]
        congr 1; omega
    · exact slot_keep2 (hF.slot hj') (tkS_at hj (by omega) (by omega)) (fun i hi => tkS_at hj (by omega) (by omega)) (fun i hi => pk_cpy_out (by omega))
  exact ⟨XR_cong hW hA hB hR, WF_cong hW hA, key 0 (by omega), key 1 (by omega)⟩
theorem slot_full {s c : Row} (hF : FS s c) {j : Nat} (hj : j < 2) (hE : emptyB s j = false) : XR (sh s (481 + 481 * j)) (sh c ((1 + j) * 491)) ∧ WF (sh s (481 + 481 * j)) := by
  unfold emptyB at hE
  rcases hF.slot hj with ⟨h1, -⟩ | ⟨-, h2, h3⟩
  · rw [h1] at hE; exact absurd hE (by decide)
  · exact ⟨h2, h3⟩
theorem FS_rs {s c : Row} (hF : FS s c) {j : Nat} (hj : j < 2) (hE : emptyB s j = false) : FS (rsS s (nI j)) (va_cpy c c ((1 + j) * 491) 0 491) := by
  obtain ⟨h2, h3⟩ := slot_full hF hj hE
  have hA : ∀ i, i < 481 → rsS s (nI j) i = sh s (481 + 481 * j) i := fun i hi => by
    unfold rsS sh; rw [cl_n (by omega), pk_cpy_in (by omega) (by omega), Nat.sub_zero]
  have hB : ∀ i, i < 491 → va_cpy c c ((1 + j) * 491) 0 491 i = sh c ((1 + j) * 491) i := fun i hi => by
    unfold sh; rw [pk_cpy_in (by omega) (by omega), Nat.sub_zero]
  exact hF.keep (fun i hi => by unfold rsS; rw [cl_n (by omega), pk_cpy_out (by omega)]) (fun i hi => pk_cpy_out (by omega)) (XR_cong h3 hA hB h2) (WF_cong h3 hA)
/-! undo, text -/
def unR (st : Nat) : Int32 := if st = 0 then -100002 else nI (st - 1)
def apR (tl : Nat) (x : Int32) : Int32 := if inR x (nI 1) (nI 255) = true then (if tl = 100 then -100003 else nI (tl + 1)) else -100001
def apO (tl : Nat) (x : Int32) : Bool := inR x (nI 1) (nI 255) && !decide (tl = 100)
