theorem wk_n {x : Int32} {n : Nat} (hn : n < 2147483648) {b : Nat} (hb : n = b + 1) (h : inR x (nI 0) (nI b) = true) : hasN x n = true := by
  obtain ⟨k, h1, h2, rfl⟩ := inR_t (by omega) (by omega) h
  exact hasN_n (by omega) hn
theorem wk_f {x : Int32} {n b : Nat} (hn : n < 2147483648) (hb : n = b + 1) (h : inR x (nI 0) (nI b) = false) : hasN x n = false := by
  cases e : hasN x n with
  | false => rfl
  | true =>
    obtain ⟨k, hk, rfl⟩ := hasN_t e
    rw [inR_n (by omega) (by omega) (by omega)] at h
    cases h
theorem pkM_1 {s : Row} (hW : WF s) (a : Nat) : pkM s a 1 = 0 ∧ pkE s a 1 = 0 := by
  have h0 : bal s (cE s 0) a = 0 := by rw [cE_0 hW, bal_0]
  have h1 : pkM s a 0 = 0 := rfl
  constructor
  · rw [pkM, h0, h1, if_neg (by omega)]
  · rw [pkE, h0, h1, if_neg (by omega)]; rfl
