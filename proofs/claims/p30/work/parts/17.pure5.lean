/-! sums: a row f of six cells holds the numbers v -/
def SV (f : Row) (v : Nat → Int) : Prop := ∀ a, a < 6 → f a = iI (v a)
def BV (v : Nat → Int) (N : Int) : Prop := ∀ a, a < 6 → 0 ≤ v a ∧ v a ≤ N
def aff (s : Row) (v : Nat → Int) (e : Nat) : Bool := !tk s e || decide (am s e ≤ v (a1 s e))
def addV (s : Row) (v : Nat → Int) (e : Nat) : Nat → Int := fun a => v a + ctr s e a
def stp (s : Row) (v : Nat → Int) (e : Nat) : Nat → Int := if aff s v e = true then addV s v e else v
def trV (s : Row) (v : Nat → Int) (E : Nat → Nat) : Nat → Nat → Int
  | 0 => v
  | j + 1 => stp s (trV s v E j) (E j)
def trN (s : Row) (v : Nat → Int) (E : Nat → Nat) : Nat → Nat
  | 0 => 0
  | j + 1 => trN s v E j + (if aff s (trV s v E j) (E j) = true then 1 else 0)
def allV (s : Row) (v : Nat → Int) (E : Nat → Nat) : Nat → Nat → Int
  | 0 => v
  | j + 1 => addV s (allV s v E j) (E j)
def fstR (s : Row) (v : Nat → Int) (E : Nat → Nat) : Nat → Nat → Int32
  | _, 0 => -100009
  | i, r + 1 => if aff s (trV s v E i) (E i) = true then fstR s v E (i + 1) r else nI (E i)
def totF (f : Row) : Nat → Int32
  | 0 => nI 0
  | n + 1 => totF f n + f n
theorem SV_0 {f : Row} (h : ∀ i, i < 6 → f i = nI 0) : SV f (fun _ => 0) := fun a ha => h a ha
theorem am_iI (s : Row) (e : Nat) : me s e 4 = iI (am s e) := (iI_self _).symm
theorem SV_tt {s f : Row} {v : Nat → Int} {e : Nat} (h : SV f v) (h1 : tk s e = true) (h2 : bg s e = true) : SV (upd (upd f (a1 s e) (f (a1 s e) + - (me s e 4))) (a2 s e) ((upd f (a1 s e) (f (a1 s e) + - (me s e 4))) (a2 s e) + me s e 4)) (addV s v e) := by
  intro a ha
  unfold addV ctr
  rw [h1, h2]
  by_cases e2 : a = a2 s e
  · subst e2
    rw [pk_us, if_pos ⟨rfl, rfl⟩]
    by_cases e1 : a2 s e = a1 s e
    · rw [e1, pk_us, if_pos ⟨rfl, rfl⟩, h _ (by omega), am_iI, iI_neg, iI_add, iI_add]
      congr 1
      omega
    · rw [pk_un e1, if_neg (fun z => e1 z.2), h _ ha, am_iI, iI_add]
      congr 1
      omega
  · rw [pk_un e2, if_neg (fun z => e2 z.2)]
    by_cases e1 : a = a1 s e
    · subst e1
      rw [pk_us, if_pos ⟨rfl, rfl⟩, h _ ha, am_iI, iI_neg, iI_add]
      congr 1
      omega
    · have e3 : (if true = true ∧ a = a1 s e then am s e else 0) = 0 := if_neg (fun z => e1 z.2)
      rw [pk_un e1, e3, h _ ha]
      congr 1
      omega
theorem SV_ft {s f : Row} {v : Nat → Int} {e : Nat} (h : SV f v) (h1 : tk s e = false) (h2 : bg s e = true) : SV (upd f (a2 s e) (f (a2 s e) + me s e 4)) (addV s v e) := by
  intro a ha
  unfold addV ctr
  rw [h1, h2]
  have e3 : (if false = true ∧ a = a1 s e then am s e else 0) = 0 := if_neg (fun z => by cases z.1)
  rw [e3]
  by_cases e2 : a = a2 s e
  · subst e2
    rw [pk_us, if_pos ⟨rfl, rfl⟩, h _ ha, am_iI, iI_add]
    congr 1
    omega
  · rw [pk_un e2, if_neg (fun z => e2 z.2), h _ ha]
    congr 1
    omega
theorem SV_tf {s f : Row} {v : Nat → Int} {e : Nat} (h : SV f v) (h1 : tk s e = true) (h2 : bg s e = false) : SV (upd f (a1 s e) (f (a1 s e) + - (me s e 4))) (addV s v e) := by
  intro a ha
  unfold addV ctr
  rw [h1, h2]
  have e3 : (if false = true ∧ a = a2 s e then am s e else 0) = 0 := if_neg (fun z => by cases z.1)
  rw [e3]
  by_cases e2 : a = a1 s e
  · subst e2
    rw [pk_us, if_pos ⟨rfl, rfl⟩, h _ ha, am_iI, iI_neg, iI_add]
    congr 1
    omega
  · rw [pk_un e2, if_neg (fun z => e2 z.2), h _ ha]
    congr 1
    omega
theorem SV_ff {s f : Row} {v : Nat → Int} {e : Nat} (h : SV f v) (h1 : tk s e = false) (h2 : bg s e = false) : SV f (addV s v e) := by
  intro a ha
  unfold addV ctr
  rw [h1, h2]
  have e3 : (if false = true ∧ a = a2 s e then am s e else 0) = 0 := if_neg (fun z => by cases z.1)
  have e4 : (if false = true ∧ a = a1 s e then am s e else 0) = 0 := if_neg (fun z => by cases z.1)
  rw [e3, e4, h _ ha]
  congr 1
  omega
theorem aff_of {s f : Row} {v : Nat → Int} {e : Nat} {N : Int} (hW : WF s) (he : e < nE s) (h : SV f v) (hB : BV v N) (hN : N < 2147483648) : (!decide ((me s e 1).toInt = 2 ∨ (me s e 1).toInt = 3) || decide ((me s e 4).toInt ≤ (f (a1 s e)).toInt)) = aff s v e := by
  have h1 := hW.a1l he
  have h2 := hB _ h1
  unfold aff tk
  rw [h _ h1, iI_toInt (by omega) (by omega)]
/-- without a taking, sums don't fall; a taking that is afforded leaves no sum below 0 -/
theorem stp_bd {s : Row} (hW : WF s) {v : Nat → Int} {e : Nat} (he : e < nE s) {N : Int} (hB : BV v N) : BV (stp s v e) (N + 999) := by
  have h0 := hW.am0 he
  have h9 := hW.am9 he
  intro a ha
  have hb := hB a ha
  unfold stp
  by_cases hc : aff s v e = true
  · rw [if_pos hc]
    unfold addV ctr
    unfold aff at hc
    cases ht : tk s e with
    | false =>
      have e4 : (if false = true ∧ a = a1 s e then am s e else 0) = 0 := if_neg (fun z => by cases z.1)
      rw [e4]
      split <;> omega
    | true =>
      rw [ht] at hc
      simp only [Bool.not_true, Bool.false_or] at hc
      have hc := of_decide_eq_true hc
      by_cases e1 : a = a1 s e
      · subst e1
        have e4 : (if true = true ∧ a1 s e = a1 s e then am s e else 0) = am s e := if_pos ⟨rfl, rfl⟩
        rw [e4]
        split <;> omega
      · have e4 : (if true = true ∧ a = a1 s e then am s e else 0) = 0 := if_neg (fun z => e1 z.2)
        rw [e4]
        split <;> omega
  · rw [if_neg hc]; omega
theorem trV_bd {s : Row} (hW : WF s) {v : Nat → Int} {E : Nat → Nat} {N : Int} (hB : BV v N) : ∀ {j : Nat}, (∀ k, k < j → E k < nE s) → BV (trV s v E j) (N + 999 * j) := by
  intro j
  induction j with
  | zero => intro _; show BV v _; simpa using hB
  | succ j ih =>
    intro h
    have h1 := stp_bd hW (h j (by omega)) (ih (fun k hk => h k (by omega)))
    intro a ha
    have h2 := h1 a ha
    rw [trV]
    exact ⟨h2.1, by have := h2.2; push_cast at *; omega⟩
theorem BV.w {v : Nat → Int} {N M : Int} (h : BV v N) (hl : N ≤ M) : BV v M := fun a ha => ⟨(h a ha).1, Int.le_trans (h a ha).2 hl⟩
theorem trN_le (s : Row) (v : Nat → Int) (E : Nat → Nat) : ∀ j, trN s v E j ≤ j := by
  intro j
  induction j with
  | zero => exact Nat.le_refl _
  | succ j ih => rw [trN]; split <;> omega
/-- the balances at an entry are small -/
theorem bal_hi {s : Row} (hW : WF s) : ∀ (e : Nat), e < nE s → ∀ a, bal s e a ≤ 999 * e := by
  intro e
  induction e using Nat.strongRecOn with
  | ind e ih =>
    intro he a
    by_cases e0 : e = 0
    · subst e0; rw [bal_0]; omega
    · have hp := hW.pl (Nat.pos_of_ne_zero e0) he
      have h1 := ih _ hp (by omega) a
      have h0 := hW.am0 he
      have h9 := hW.am9 he
      rw [bal_s hW (Nat.pos_of_ne_zero e0) he]
      unfold ctr
      split <;> split <;> omega
theorem bal_bd {s : Row} (hW : WF s) {e : Nat} (he : e < nE s) : BV (bal s e) 58941 := fun a ha => ⟨hW.ok he ha, by have h1 := bal_hi hW e he a; have h2 := hW.n60; omega⟩
theorem max_0 {n : Nat} (h : n < 2147483648) : (if nI 0 < nI n then nI n else nI 0) = nI n := by
  by_cases h0 : n = 0
  · rw [h0]; split <;> rfl
  · rw [if_pos (nI_lt (by omega) h)]
theorem up_in {s : Row} (hW : WF s) : ∀ (k e : Nat), e < nE s → k < dep s e → up s e k < nE s := by
  intro k
  induction k with
  | zero => intro e he _; exact he
  | succ k ih =>
    intro e he hk
    by_cases e0 : e = 0
    · subst e0; rw [dep_0] at hk; omega
    · have hp := hW.pl (Nat.pos_of_ne_zero e0) he
      rw [dep_s hW (Nat.pos_of_ne_zero e0) he] at hk
      exact ih _ (by omega) (by omega)
theorem up_pos {s : Row} (hW : WF s) : ∀ (k e : Nat), e < nE s → k + 1 < dep s e → 0 < up s e k := by
  intro k
  induction k with
  | zero =>
    intro e he hk
    have : e ≠ 0 := fun z => by rw [z, dep_0] at hk; omega
    exact Nat.pos_of_ne_zero this
  | succ k ih =>
    intro e he hk
    by_cases e0 : e = 0
    · subst e0; rw [dep_0] at hk; omega
    · have hp := hW.pl (Nat.pos_of_ne_zero e0) he
      rw [dep_s hW (Nat.pos_of_ne_zero e0) he] at hk
      exact ih _ (by omega) (by omega)
theorem up_s (s : Row) : ∀ (k e : Nat), up s e (k + 1) = pa s (up s e k) := by
  intro k
  induction k with
  | zero => intro e; rfl
  | succ k ih => intro e; rw [up, ih]; rfl
theorem up_dec {s : Row} (hW : WF s) {k e : Nat} (he : e < nE s) (hk : k + 1 < dep s e) : up s e (k + 1) < up s e k := by
  rw [up_s]
  exact hW.pl (up_pos hW k e he hk) (up_in hW k e he (by omega))
theorem brE_in {s : Row} (hW : WF s) {b k : Nat} (hb : b < nB s) (hk : k < mn s b) : brE s b k < nE s := by
  have h1 := hW.mnd hb
  exact up_in hW _ _ (hW.lfl hb) (by omega)
theorem brE_pos {s : Row} (hW : WF s) {b k : Nat} (hb : b < nB s) (hk : k < mn s b) : 0 < brE s b k := by
  have h1 := hW.mnd hb
  exact up_pos hW _ _ (hW.lfl hb) (by omega)
theorem brE_inc {s : Row} (hW : WF s) {b k : Nat} (hb : b < nB s) (hk : k + 1 < mn s b) : brE s b k < brE s b (k + 1) := by
  have h1 := hW.mnd hb
  unfold brE
  rw [show mn s b - 1 - k = (mn s b - 1 - (k + 1)) + 1 by omega]
  exact up_dec hW (hW.lfl hb) (by omega)
