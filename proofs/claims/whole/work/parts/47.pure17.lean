/-! the two histories side by side -/
def HR (was hc : Row) (st nx : Nat) : Prop := ∀ k, k < st → ∃ s' c' : Row, FS s' c' ∧ (∀ i, i < 1445 → was (1445 * k + i) = s' i) ∧ (∀ i, i < 1473 → hc (1473 * ((nx + 5 - st + k) % 5) + i) = c' i)
theorem HR_0 (was hc : Row) : HR was hc 0 0 := fun k h => absurd h (Nat.not_lt_zero k)
theorem HR_rec {s c was hc : Row} {st nx : Nat} (hst : st ≤ 5) (hnx : nx < 5) (hF : FS s c) (h : HR was hc st nx) : HR (recW was s st) (va_cpy c hc 0 (nx * 1473) 1473) (recN st) ((nx + 1) % 5) := by
  intro k hk
  by_cases e5 : st = 5
  · subst e5
    rw [show recN 5 = 5 from rfl] at hk ⊢
    by_cases ek : k = 4
    · refine ⟨s, c, hF, ?_, ?_⟩
      · intro i hi
        unfold recW
        rw [if_pos rfl, ek, pk_cpy_in (by omega) (by omega)]
        exact congrArg s (by omega)
      · intro i hi
        rw [ek, show ((nx + 1) % 5 + 5 - 5 + 4) % 5 = nx by omega, pk_cpy_in (by omega) (by omega)]
        exact congrArg c (by omega)
    · obtain ⟨s', c', g1, g2, g3⟩ := h (k + 1) (by omega)
      refine ⟨s', c', g1, ?_, ?_⟩
      · intro i hi
        unfold recW
        rw [if_pos rfl, pk_cpy_out (by omega)]
        show (if 1445 * k + i < 5780 then was (1445 * k + i + 1445) else was (1445 * k + i)) = _
        rw [if_pos (by omega), ← g2 i hi]
        exact congrArg was (by omega)
      · intro i hi
        have hm : ((nx + 1) % 5 + 5 - 5 + k) % 5 ≠ nx := by omega
        have hm2 : (nx + 5 - 5 + (k + 1)) % 5 = ((nx + 1) % 5 + 5 - 5 + k) % 5 := by omega
        rw [pk_cpy_out (by omega), ← g3 i hi, hm2]
  · have hN : recN st = st + 1 := by unfold recN; rw [if_pos (by omega)]
    rw [hN] at hk ⊢
    have hp : ((nx + 1) % 5 + 5 - (st + 1) + k) % 5 = (nx + 5 - st + k) % 5 := by omega
    by_cases ek : k = st
    · refine ⟨s, c, hF, ?_, ?_⟩
      · intro i hi
        unfold recW
        rw [if_neg e5, ek, pk_cpy_in (by omega) (by omega)]
        exact congrArg s (by omega)
      · intro i hi
        rw [hp, ek, show (nx + 5 - st + st) % 5 = nx by omega, pk_cpy_in (by omega) (by omega)]
        exact congrArg c (by omega)
    · obtain ⟨s', c', g1, g2, g3⟩ := h k (by omega)
      refine ⟨s', c', g1, ?_, ?_⟩
      · intro i hi
        unfold recW
        rw [if_neg e5, pk_cpy_out (by omega)]
        exact g2 i hi
      · intro i hi
        have hm : (nx + 5 - st + k) % 5 ≠ nx := by omega
        rw [hp, pk_cpy_out (by omega)]
        exact g3 i hi
def LI (s c was hc : Row) (st nx : Nat) : Prop := FS s c ∧ st ≤ 5 ∧ nx < 5 ∧ HR was hc st nx
theorem LI_step {s c was hc S s2 c2 w2 hc2 : Row} {st nx st2 nx2 st3 : Nat} {ok : Bool} (h : LI s c was hc st nx) (a : ACT s c hc st nx ok S c2 hc2 st2 nx2) (b : MACT s was st ok S s2 w2 st3) : st3 = st2 ∧ LI s2 c2 w2 hc2 st2 nx2 := by
  obtain ⟨hF, h5, hn, hH⟩ := h
  unfold ACT at a
  unfold MACT at b
  cases ok with
  | true =>
    rw [if_pos rfl] at a b
    obtain ⟨a1, rfl, rfl, rfl⟩ := a
    obtain ⟨rfl, rfl, rfl⟩ := b
    exact ⟨rfl, a1, recN_le _, Nat.mod_lt _ (by omega), HR_rec h5 hn hF hH⟩
  | false =>
    rw [if_neg (by decide)] at a b
    obtain ⟨rfl, rfl, rfl, rfl⟩ := a
    obtain ⟨rfl, rfl, rfl⟩ := b
    exact ⟨rfl, hF, h5, hn, hH⟩
theorem LI_undo {s c was hc s2 c2 : Row} {st nx st2 nx2 st3 : Nat} (h : LI s c was hc st nx) (a : if st = 0 then c2 = c ∧ st2 = st ∧ nx2 = nx else c2 = va_cpy hc c ((nx + 5 - 1) % 5 * 1473) 0 1473 ∧ st2 = st - 1 ∧ nx2 = (nx + 5 - 1) % 5)
    (b : if st = 0 then s2 = s ∧ st3 = st else s2 = va_cpy was s (1445 * (st - 1)) 0 1445 ∧ st3 = st - 1) : st3 = st2 ∧ ∃ s' c' : Row, LI s' c' was hc st2 nx2 ∧ (∀ i, i < 1445 → s2 i = s' i) ∧ (∀ i, i < 1473 → c2 i = c' i) := by
  obtain ⟨hF, h5, hn, hH⟩ := h
  by_cases e0 : st = 0
  · rw [if_pos e0] at a b
    obtain ⟨rfl, rfl, rfl⟩ := a
    obtain ⟨rfl, rfl⟩ := b
    exact ⟨rfl, s2, c2, ⟨hF, h5, hn, hH⟩, fun _ _ => rfl, fun _ _ => rfl⟩
  · rw [if_neg e0] at a b
    obtain ⟨rfl, rfl, rfl⟩ := a
    obtain ⟨rfl, rfl⟩ := b
    obtain ⟨s', c', g1, g2, g3⟩ := hH (st - 1) (by omega)
    refine ⟨rfl, s', c', ⟨g1, by omega, Nat.mod_lt _ (by omega), ?_⟩, ?_, ?_⟩
    · intro k hk
      obtain ⟨s'', c'', k1, k2, k3⟩ := hH k (by omega)
      refine ⟨s'', c'', k1, k2, fun i hi => ?_⟩
      rw [show ((nx + 5 - 1) % 5 + 5 - (st - 1) + k) % 5 = (nx + 5 - st + k) % 5 by omega]
      exact k3 i hi
    · intro i hi
      rw [pk_cpy_in (by omega) (by omega), ← g2 i hi]
      exact congrArg was (by omega)
    · intro i hi
      rw [pk_cpy_in (by omega) (by omega), ← g3 i hi, show (nx + 5 - st + (st - 1)) % 5 = (nx + 5 - 1) % 5 by omega]
      exact congrArg hc (by omega)
theorem P_cong {D : va_G} {A : Nat → Prop} {ws : va_W} {H : Heap} (hP : va_P D vwCl ws H) (hD : va_D A ws) (k : Nat) {a n : Nat} {q : ClassId} {f g : Row} (he : ws[k]? = some (a, .inl (q, n, .inl f))) (h : ∀ i, i < n → f i = g i) : va_P D vwCl (ws.set k (a, .inl (q, n, .inl g))) H ∧ va_D A (ws.set k (a, .inl (q, n, .inl g))) := by
  refine ⟨hP.set hD he ?_ (fun q _ => rfl), hD.set he⟩
  have h1 : H[a]? = some (arrV q n (fun j => .int (f j))) := hP k _ he
  show H[a]? = some (arrV q n (fun j => .int (g j)))
  rw [h1]
  congr 1
  unfold arrV
  congr 1
  congr 1
  funext j
  exact congrArg Value.int (h j.val j.isLt)
theorem TOK_0 (T : Row) : TOK T 0 := ⟨by omega, fun i h => absurd h (Nat.not_lt_zero i)⟩
theorem TOK_app {T : Row} {tl : Nat} {x : Int32} (h : TOK T tl) (ha : apO tl x = true) : TOK (upd T tl x) (tl + 1) := by
  unfold apO at ha
  rw [Bool.and_eq_true] at ha
  obtain ⟨k, h1, h2, rfl⟩ := inR_t (by omega) (by omega) ha.1
  have h3 : ¬ tl = 100 := fun z => by have := ha.2; rw [decide_eq_true z] at this; cases this
  refine ⟨by have := h.1; omega, fun i hi => ?_⟩
  by_cases e : i = tl
  · have e2 : chr (upd T tl (nI k)) i = k := by unfold chr; rw [e, pk_us, nI_clamp (by omega)]
    rw [e2, e, pk_us]; exact ⟨rfl, by omega⟩
  · have e2 : chr (upd T tl (nI k)) i = chr T i := by unfold chr; rw [pk_un e]
    rw [e2, pk_un e]; exact h.2 i (by omega)
theorem and31 (x : Int32) : ∃ k : Nat, k < 32 ∧ x &&& nI 31 = nI k := by
  have h1 : (x &&& nI 31).toBitVec = x.toBitVec &&& 31#32 := rfl
  refine ⟨(x &&& nI 31).toBitVec.toNat, ?_, ?_⟩
  · rw [h1, BitVec.toNat_and]
    exact Nat.lt_of_le_of_lt Nat.and_le_right (by decide)
  · apply Int32.toBitVec_inj.mp
    apply BitVec.eq_of_toNat_eq
    have h2 : (x &&& nI 31).toBitVec.toNat < 32 := by
      rw [h1, BitVec.toNat_and]
      exact Nat.lt_of_le_of_lt Nat.and_le_right (by decide)
    generalize (x &&& nI 31).toBitVec.toNat = k at h2
    have h3 : ∀ k, k < 32 → k = (nI k).toBitVec.toNat := by decide +kernel
    exact h3 k h2
theorem sts0_WF : WF sts0 := by
  have hn : nE sts0 = 1 := by decide +kernel
  have hh : hE sts0 = 0 := by decide +kernel
  have hb : nB sts0 = 0 := by decide +kernel
  have hs : nS sts0 = 0 := by decide +kernel
  refine ⟨⟨by decide +kernel, by omega, by omega⟩, ⟨by decide +kernel, by omega⟩, ⟨by decide +kernel, by omega⟩, ⟨by decide +kernel, by omega⟩, by decide +kernel, ?_, ?_, ?_, ?_⟩
  · intro e he
    have e0 : e = 0 := by omega
    subst e0
    unfold WFe
    exact ⟨fun h => absurd h (Nat.lt_irrefl 0), by decide +kernel, by decide +kernel, by decide +kernel, by decide +kernel, by decide +kernel, by decide +kernel, fun h => by revert h; decide +kernel⟩
  · intro b h; omega
  · intro k h; omega
  · intro e he a ha
    have e0 : e = 0 := by omega
    subst e0
    rw [bal_0]; exact Int.le_refl 0
theorem FS_0 : FS sts0 led0 := by
  refine ⟨?_, sts0_WF, Or.inl ⟨by decide +kernel, by decide +kernel⟩, Or.inl ⟨by decide +kernel, by decide +kernel⟩⟩
  unfold XR
  decide +kernel
theorem LI_0 (was hc : Row) : LI sts0 led0 was hc 0 0 := ⟨FS_0, by omega, by omega, HR_0 was hc⟩
