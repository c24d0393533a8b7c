/-! the history: a ring on the class's side, a row of states on the other -/
def recN (n : Nat) : Nat := if n < 5 then n + 1 else 5
theorem recN_le (n : Nat) : recN n ≤ 5 := by unfold recN; split <;> omega
theorem min_5 {n : Nat} (h : n < 1000) : (if nI 5 < nI (n + 1) then nI 5 else nI (n + 1)) = nI (recN n) := by
  unfold recN
  by_cases hc : n < 5
  · rw [if_pos hc, if_neg (nI_nlt (by omega) (by omega))]
  · rw [if_neg hc]
    by_cases h5 : n = 5 - 0
    · rw [if_pos (nI_lt (by omega) (by omega))]
    · rw [if_pos (nI_lt (by omega) (by omega))]
/-! the text read as a proof: from the sign i on, with d digits of a number so far, v the number, k numbers kept -/
abbrev chr (T : Row) (i : Nat) : Nat := (T i).toNatClampNeg
def TOK (T : Row) (n : Nat) : Prop := n ≤ 100 ∧ ∀ i, i < n → T i = nI (chr T i) ∧ chr T i ≤ 255
def nd (ch d v : Nat) : Bool := (decide (d = 0) || (decide (d < 4) && !decide (v = 0))) && (decide (48 ≤ ch) && decide (ch ≤ 57))
def es (k : Nat) : Nat := if k = 0 then 58 else 44
def prF (T : Row) : Nat → Nat → Nat → Nat → Nat → Int32
  | 0, i, d, _, k => if d = 0 ∨ k = 0 then nI i else iI (-1)
  | r + 1, i, d, v, k => if nd (chr T i) d v = true then prF T r (i + 1) (d + 1) (v * 10 + (chr T i - 48)) k else if 0 < d ∧ chr T i = es k then prF T r (i + 1) 0 0 (k + 1) else nI i
def prS (T : Row) : Nat → Nat → Nat → Nat → Nat → Nat
  | 0, _, _, _, k => k + 1
  | r + 1, i, d, v, k => if nd (chr T i) d v = true then prS T r (i + 1) (d + 1) (v * 10 + (chr T i - 48)) k else if 0 < d ∧ chr T i = es k then prS T r (i + 1) 0 0 (k + 1) else k + 1
def prN (T : Row) : Nat → Nat → Nat → Nat → Nat → Nat → Nat
  | 0, _, _, v, k, x => if x = k then v else 0
  | r + 1, i, d, v, k, x => if nd (chr T i) d v = true then prN T r (i + 1) (d + 1) (v * 10 + (chr T i - 48)) k x else if 0 < d ∧ chr T i = es k then (if x = k then v else prN T r (i + 1) 0 0 (k + 1) x) else 0
theorem nd_dig {ch d v : Nat} (h : nd ch d v = true) : 48 ≤ ch ∧ ch ≤ 57 ∧ (d = 0 ∨ d < 4 ∧ v ≠ 0) := by
  unfold nd at h
  simp only [Bool.and_eq_true, Bool.or_eq_true, decide_eq_true_eq, Bool.not_eq_true', decide_eq_false_iff_not] at h
  exact ⟨h.2.1, h.2.2, h.1⟩
/-- numbers stay small: d digits make less than 10^d -/
def vOK (d v : Nat) : Prop := d ≤ 4 ∧ (d = 0 → v = 0) ∧ v < 10 ^ d
theorem vOK_0 : vOK 0 0 := ⟨by omega, fun _ => rfl, by decide⟩
theorem vOK_s {ch d v : Nat} (h : vOK d v) (hn : nd ch d v = true) : vOK (d + 1) (v * 10 + (ch - 48)) := by
  obtain ⟨h1, h2, h3⟩ := nd_dig hn
  obtain ⟨g1, g2, g3⟩ := h
  refine ⟨by omega, fun z => absurd z (by omega), ?_⟩
  rw [Nat.pow_succ]
  omega
theorem vOK_lt {d v : Nat} (h : vOK d v) : v < 10000 := by
  have h1 : 10 ^ d ≤ 10 ^ 4 := Nat.pow_le_pow_right (by omega) h.1
  have h2 := h.2.2
  omega
theorem nd_t {ch d v : Nat} (h : 48 ≤ ch ∧ ch ≤ 57 ∧ (d = 0 ∨ d < 4 ∧ v ≠ 0)) : nd ch d v = true := by
  unfold nd
  simp only [Bool.and_eq_true, Bool.or_eq_true, decide_eq_true_eq, Bool.not_eq_true', decide_eq_false_iff_not]
  exact ⟨h.2.2, h.1, h.2.1⟩
theorem nd_f {ch d v : Nat} (h : ¬ (48 ≤ ch ∧ ch ≤ 57 ∧ (d = 0 ∨ d < 4 ∧ v ≠ 0))) : nd ch d v = false := by
  cases e : nd ch d v with
  | false => rfl
  | true => exact absurd (nd_dig e) h
theorem inR_d {x a b : Nat} (hx : x < 2147483648) (ha : a < 2147483648) (hb : b < 2147483648) : inR (nI x) (nI a) (nI b) = decide (a ≤ x ∧ x ≤ b) := by
  unfold inR
  rw [nI_tI hx, nI_tI ha, nI_tI hb]
  congr 1
  exact propext ⟨fun h => ⟨by omega, by omega⟩, fun h => ⟨by omega, by omega⟩⟩
theorem nI_m1 {n : Nat} (hn : n < 2147483648) : nI n ≠ iI (-1) := fun z => by
  have h := congrArg Int32.toInt z
  rw [nI_tI hn, iI_toInt (by omega) (by omega)] at h
  omega
theorem es_le (k : Nat) : es k ≤ 58 := by unfold es; split <;> omega
