theorem P_cong {D : va_G} {A : Nat → Prop} {ws : va_W} {H : Heap} (hP : va_P D vwCl ws H) (hD : va_D A ws) (k : Nat) {a n : Nat} {q : ClassId} {f g : Row} (he : ws[k]? = some (a, .inl (q, n, .inl f))) (h : ∀ i, i < n → f i = g i) : va_P D vwCl (ws.set k (a, .inl (q, n, .inl g))) H ∧ va_D A (ws.set k (a, .inl (q, n, .inl g))) := by
  refine ⟨hP.set hD he ?_ (fun q _ => rfl), hD.set he⟩
  have h1 : H[a]? = some (arrV q n (fun j => .int (f j))) := hP k _ he
  show H[a]? = some (arrV q n (fun j => .int (g j)))
  rw [h1]
  congr 1
  unfold arrV
  congr 1
  congr 1
  funext j
  exact congrArg Value.int (h j.val j.isLt)
theorem sts0_WF : WF sts0 := by
  have hn : nE sts0 = 1 := by decide +kernel
  have hh : hE sts0 = 0 := by decide +kernel
  have hb : nB sts0 = 0 := by decide +kernel
  have hs : nS sts0 = 0 := by decide +kernel
  refine ⟨⟨by decide +kernel, by omega, by omega⟩, ⟨by decide +kernel, by omega⟩, ⟨by decide +kernel, by omega⟩, ⟨by decide +kernel, by omega⟩, by decide +kernel, ?_, ?_, ?_, ?_⟩
  · intro e he
    have e0 : e = 0 := by omega
    subst e0
    unfold WFe
    exact ⟨fun h => absurd h (Nat.lt_irrefl 0), by decide +kernel, by decide +kernel, by decide +kernel, by decide +kernel, by decide +kernel, by decide +kernel, fun h => by revert h; decide +kernel⟩
  · intro b h; omega
  · intro k h; omega
  · intro e he a ha
    have e0 : e = 0 := by omega
    subst e0
    rw [bal_0]; exact Int.le_refl 0
theorem FS_0 : FS sts0 led0 := by
  refine ⟨?_, sts0_WF, Or.inl ⟨by decide +kernel, by decide +kernel⟩, Or.inl ⟨by decide +kernel, by decide +kernel⟩⟩
  unfold XR
  decide +kernel
