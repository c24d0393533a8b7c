theorem addV_hw1 (s : Row) (v : Nat → Int) (e : Nat) : ∀ a, addV s v e a = v a + ((if bg s e = true ∧ a = a2 s e then ((1 : Nat) : Int) * am s e else 0) - (if tk s e = true ∧ a = a1 s e then ((1 : Nat) : Int) * am s e else 0)) := fun a => addV_hw s v e a
theorem cnt_tt {s f : Row} {v w : Nat → Int} {e : Nat} {sg : Int} (hV : SV f v) (h1 : tk s e = true) (h2 : bg s e = true) (h12 : a1 s e ≠ a2 s e) (hw : ∀ a, w a = v a + ((if bg s e = true ∧ a = a2 s e then sg * am s e else 0) - (if tk s e = true ∧ a = a1 s e then sg * am s e else 0))) : SV (upd (upd f (a1 s e) (iI (v (a1 s e) - sg * am s e))) (a2 s e) (iI (v (a2 s e) + sg * am s e))) w := by
  refine cnt_case hV _ _ sg (fun a ha => ?_) hw
  by_cases q2 : a = a2 s e
  · subst q2
    have e4 : (if tk s e = true ∧ a2 s e = a1 s e then sg * am s e else 0) = 0 := if_neg (fun z => h12 z.2.symm)
    rw [pk_us, if_pos ⟨h2, rfl⟩, e4]
    congr 1; omega
  · rw [pk_un q2, if_neg (fun z => q2 z.2)]
    by_cases q1 : a = a1 s e
    · subst q1; rw [pk_us, if_pos ⟨h1, rfl⟩]
    · rw [pk_un q1, if_neg (fun z => q1 z.2)]
theorem cnt_ft {s f : Row} {v w : Nat → Int} {e : Nat} {sg : Int} (hV : SV f v) (h1 : tk s e = false) (h2 : bg s e = true) (hw : ∀ a, w a = v a + ((if bg s e = true ∧ a = a2 s e then sg * am s e else 0) - (if tk s e = true ∧ a = a1 s e then sg * am s e else 0))) : SV (upd f (a2 s e) (iI (v (a2 s e) + sg * am s e))) w := by
  refine cnt_case hV _ _ sg (fun a ha => ?_) hw
  by_cases q2 : a = a2 s e
  · subst q2
    have e4 : (if tk s e = true ∧ a2 s e = a1 s e then sg * am s e else 0) = 0 := if_neg (fun z => by rw [h1] at z; cases z.1)
    rw [pk_us, if_pos ⟨h2, rfl⟩, e4]
    congr 1; omega
  · rw [pk_un q2, if_neg (fun z => q2 z.2), if_neg (fun z => by rw [h1] at z; cases z.1)]
theorem cnt_tf {s f : Row} {v w : Nat → Int} {e : Nat} {sg : Int} (hV : SV f v) (h1 : tk s e = true) (h2 : bg s e = false) (hw : ∀ a, w a = v a + ((if bg s e = true ∧ a = a2 s e then sg * am s e else 0) - (if tk s e = true ∧ a = a1 s e then sg * am s e else 0))) : SV (upd f (a1 s e) (iI (v (a1 s e) - sg * am s e))) w := by
  refine cnt_case hV _ _ sg (fun a ha => ?_) hw
  rw [if_neg (fun z => by rw [h2] at z; cases z.1)]
  by_cases q1 : a = a1 s e
  · subst q1; rw [pk_us, if_pos ⟨h1, rfl⟩]
  · rw [pk_un q1, if_neg (fun z => q1 z.2)]
theorem cnt_ff {s f : Row} {v w : Nat → Int} {e : Nat} {sg : Int} (hV : SV f v) (h1 : tk s e = false) (h2 : bg s e = false) (hw : ∀ a, w a = v a + ((if bg s e = true ∧ a = a2 s e then sg * am s e else 0) - (if tk s e = true ∧ a = a1 s e then sg * am s e else 0))) : SV f w := by
  refine cnt_case hV _ _ sg (fun a ha => ?_) hw
  rw [if_neg (fun z => by rw [h2] at z; cases z.1), if_neg (fun z => by rw [h1] at z; cases z.1)]
theorem tk_t {s : Row} {e : Nat} (h : (me s e 1).toInt = 2 ∨ (me s e 1).toInt = 3) : tk s e = true := decide_eq_true h
theorem tk_f {s : Row} {e : Nat} (h : ¬ ((me s e 1).toInt = 2 ∨ (me s e 1).toInt = 3)) : tk s e = false := decide_eq_false h
theorem bg_in (s : Row) (e : Nat) : inR (me s e 1) (nI 1) (nI 3) = bg s e := rfl
theorem lowV_cong {v w : Nat → Int} (h : ∀ a, a < 6 → v a = w a) : lowV v = lowV w := by
  unfold lowV
  rw [allF_cong (fun k _ hk => by rw [h k (by omega)])]
theorem wB_min {s : Row} {j b : Nat} (hb : b < nB s) (h1 : waitB s b = true) (h2 : cntF (waitB s) b = j) : wB s j = b := by
  unfold wB; rw [← h2]; exact nthF_at _ hb h1
theorem fst_skip {f : Nat → Bool} : ∀ {n : Nat}, fstF f n 0 = -100009 := fun {n} => rfl
theorem cntF_one {f : Nat → Bool} {j : Nat} (h : 0 < j) : cntF f j = cntF f (j - 1) + (if f (j - 1) = true then 1 else 0) := by
  obtain ⟨k, rfl⟩ : ∃ k, j = k + 1 := ⟨j - 1, by omega⟩
  rfl
