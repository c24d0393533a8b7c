/-! orders of adoption -/
theorem cntF_le (f : Nat → Bool) : ∀ n, cntF f n ≤ n := by
  intro n
  induction n with
  | zero => exact Nat.le_refl _
  | succ n ih => rw [cntF]; split <;> omega
theorem cntF_mono (f : Nat → Bool) {a b : Nat} (h : a ≤ b) : cntF f a ≤ cntF f b := by
  induction b with
  | zero => rw [show a = 0 by omega]; exact Nat.le_refl _
  | succ b ih =>
    by_cases e : a = b + 1
    · rw [e]; exact Nat.le_refl _
    · have := ih (by omega)
      rw [cntF]; omega
/-- the k-th of the numbers below n that are so -/
def nthF (f : Nat → Bool) : Nat → Nat → Nat
  | 0, _ => 0
  | n + 1, k => if f n = true ∧ cntF f n = k then n else nthF f n k
theorem nthF_is (f : Nat → Bool) : ∀ (n k : Nat), k < cntF f n → nthF f n k < n ∧ f (nthF f n k) = true ∧ cntF f (nthF f n k) = k := by
  intro n
  induction n with
  | zero => intro k h; exact absurd h (Nat.not_lt_zero _)
  | succ n ih =>
    intro k h
    rw [nthF]
    by_cases hc : f n = true ∧ cntF f n = k
    · rw [if_pos hc]; exact ⟨by omega, hc.1, hc.2⟩
    · rw [if_neg hc]
      have h2 : k < cntF f n := by
        rw [cntF] at h
        by_cases hf : f n = true
        · rw [if_pos hf] at h
          have : cntF f n ≠ k := fun z => hc ⟨hf, z⟩
          omega
        · rw [if_neg hf] at h; omega
      obtain ⟨a, b, c⟩ := ih k h2
      exact ⟨by omega, b, c⟩
theorem nthF_at (f : Nat → Bool) {n b : Nat} (hb : b < n) (hf : f b = true) : nthF f n (cntF f b) = b := by
  induction n with
  | zero => omega
  | succ n ih =>
    rw [nthF]
    by_cases e : b = n
    · subst e; rw [if_pos ⟨hf, rfl⟩]
    · have h1 : cntF f b < cntF f n := by
        have h2 := cntF_mono f (a := b + 1) (b := n) (by omega)
        rw [cntF, if_pos hf] at h2
        omega
      rw [if_neg (fun z => by omega)]
      exact ih (by omega)
/-- the k-th waiting branch -/
def wB (s : Row) (k : Nat) : Nat := nthF (waitB s) (nB s) k
abbrev nW (s : Row) : Nat := cntF (waitB s) (nB s)
theorem wB_in {s : Row} {k : Nat} (h : k < nW s) : wB s k < nB s ∧ waitB s (wB s k) = true ∧ cntF (waitB s) (wB s k) = k := nthF_is _ _ _ h
def sumC (s : Row) (E : Nat → Nat) : Nat → Nat → Int
  | 0, _ => 0
  | n + 1, a => sumC s E n a + ctr s (E n) a
theorem allV_sum (s : Row) (v : Nat → Int) (E : Nat → Nat) : ∀ n a, allV s v E n a = v a + sumC s E n a := by
  intro n
  induction n with
  | zero => intro a; simp [allV, sumC]
  | succ n ih => intro a; rw [allV, addV, ih, sumC]; omega
/-- what the k-th waiting branch makes of a sum -/
def brS (s : Row) (k a : Nat) : Int := sumC s (brE s (wB s k)) (mn s (wB s k)) a
/-- the sums behind the set of branches, of the first m of them -/
def setV (s : Row) (set : Nat) : Nat → Nat → Int
  | 0, a => bal s (hE s) a
  | m + 1, a => setV s set m a + (if set.testBit m = true then brS s m a else 0)
theorem setV_all (s : Row) (set m : Nat) (h : set.testBit m = true) : (fun a => setV s set (m + 1) a) = allV s (setV s set m) (brE s (wB s m)) (mn s (wB s m)) := by
  funext a
  rw [setV, if_pos h, allV_sum]
  rfl
theorem setV_or {s : Row} {set k : Nat} (hb : set.testBit k = false) : ∀ (m a : Nat), setV s (set ||| 2 ^ k) m a = setV s set m a + (if k < m then brS s k a else 0) := by
  intro m
  induction m with
  | zero => intro a; simp [setV]
  | succ m ih =>
    intro a
    rw [setV, setV, ih]
    have e : (set ||| 2 ^ k).testBit m = (set.testBit m || decide (k = m)) := by
      rw [Nat.testBit_or, Nat.testBit_two_pow]
    rw [e]
    by_cases hk : k = m
    · subst hk
      simp [hb]
    · rw [decide_eq_false hk, Bool.or_false]
      by_cases h1 : k < m
      · rw [if_pos h1, if_pos (show k < m + 1 by omega)]; omega
      · rw [if_neg h1, if_neg (show ¬ k < m + 1 by omega)]; omega
def canB (s : Row) (set k : Nat) : Bool := decide (fstR s (setV s set (nW s)) (brE s (wB s k)) 0 (mn s (wB s k)) = -100009)
def stepK (s w : Row) (set k : Nat) : Row := if set.testBit k = false ∧ 0 < (w set).toInt ∧ canB s set k = true then upd w (set ||| 2 ^ k) (w (set ||| 2 ^ k) + w set) else w
def ordK (s w : Row) (set : Nat) : Nat → Row
  | 0 => w
  | k + 1 => stepK s (ordK s w set k) set k
def ord0 : Row := fun i => if i = 0 then nI 1 else nI 0
def ordS (s : Row) : Nat → Row
  | 0 => ord0
  | t + 1 => ordK s (ordS s t) t (nW s)
theorem or_ne {set k : Nat} (h : set.testBit k = false) : set ||| 2 ^ k ≠ set := fun z => by
  have h2 := congrArg (fun x => Nat.testBit x k) z
  simp only [Nat.testBit_or, Nat.testBit_two_pow_self, Bool.or_true] at h2
  rw [h] at h2
  cases h2
theorem stepK_set (s w : Row) (set k : Nat) : stepK s w set k set = w set := by
  unfold stepK
  by_cases h : set.testBit k = false ∧ 0 < (w set).toInt ∧ canB s set k = true
  · rw [if_pos h, pk_un (Ne.symm (or_ne h.1))]
  · rw [if_neg h]
theorem ordK_set (s w : Row) (set : Nat) : ∀ k, ordK s w set k set = w set := by
  intro k
  induction k with
  | zero => rfl
  | succ k ih => rw [ordK, stepK_set, ih]
theorem ordK_no {s w : Row} {set : Nat} (h : ¬ 0 < (w set).toInt) : ∀ k, ordK s w set k = w := by
  intro k
  induction k with
  | zero => rfl
  | succ k ih => rw [ordK, ih, stepK, if_neg (fun z => h z.2.1)]
/-- no entry fails: the sums behind are those of all of them -/
theorem fstR_none {s : Row} {v : Nat → Int} {E : Nat → Nat} : ∀ (r i : Nat), (∀ k, k < i + r → E k < 2147483648) → fstR s v E i r = -100009 → ∀ k, i ≤ k → k < i + r → aff s (trV s v E k) (E k) = true := by
  intro r
  induction r with
  | zero => intro i _ _ k h1 h2; omega
  | succ r ih =>
    intro i hb h k h1 h2
    rw [fstR] at h
    by_cases hc : aff s (trV s v E i) (E i) = true
    · rw [if_pos hc] at h
      by_cases e : k = i
      · rw [e]; exact hc
      · exact ih (i + 1) (fun k hk => hb k (by omega)) h k (by omega) (by omega)
    · rw [if_neg hc] at h
      have h3 := congrArg Int32.toInt h
      rw [nI_tI (hb i (by omega)), show ((-100009 : Int32).toInt) = -100009 by decide] at h3
      omega
theorem trV_all {s : Row} {v : Nat → Int} {E : Nat → Nat} : ∀ {n : Nat}, (∀ k, k < n → aff s (trV s v E k) (E k) = true) → trV s v E n = allV s v E n ∧ trN s v E n = n := by
  intro n
  induction n with
  | zero => intro _; exact ⟨rfl, rfl⟩
  | succ n ih =>
    intro h
    obtain ⟨h1, h2⟩ := ih (fun k hk => h k (by omega))
    have h3 := h n (by omega)
    refine ⟨?_, ?_⟩
    · rw [trV, allV, stp, if_pos h3, h1]
    · rw [trN, if_pos h3, h2]
theorem fstR_of {s : Row} {v : Nat → Int} {E : Nat → Nat} : ∀ (r i : Nat), (∀ k, i ≤ k → k < i + r → aff s (trV s v E k) (E k) = true) → fstR s v E i r = -100009 := by
  intro r
  induction r with
  | zero => intro i _; rfl
  | succ r ih =>
    intro i h
    rw [fstR, if_pos (h i (by omega) (by omega))]
    exact ih (i + 1) (fun k h1 h2 => h k (by omega) (by omega))
theorem trN_full {s : Row} {v : Nat → Int} {E : Nat → Nat} : ∀ {n : Nat}, trN s v E n = n → ∀ k, k < n → aff s (trV s v E k) (E k) = true := by
  intro n
  induction n with
  | zero => intro _ k h; omega
  | succ n ih =>
    intro h k hk
    have hle := trN_le s v E n
    rw [trN] at h
    by_cases hc : aff s (trV s v E n) (E n) = true
    · rw [if_pos hc] at h
      by_cases e : k = n
      · rw [e]; exact hc
      · exact ih (by omega) k (by omega)
    · rw [if_neg hc] at h; omega
theorem fst_trN {s : Row} {v : Nat → Int} {E : Nat → Nat} {n : Nat} (hb : ∀ k, k < n → E k < 2147483648) : fstR s v E 0 n = -100009 ↔ trN s v E n = n :=
  ⟨fun h => (trV_all (fun k hk => fstR_none n 0 (fun k hk => hb k (by omega)) h k (by omega) (by omega))).2, fun h => fstR_of n 0 (fun k _ hk => trN_full h k (by omega))⟩
/-- where there is an order, the sums are not below 0, and small -/
def ordOK (s w : Row) : Prop := ∀ set, set < 2 ^ nW s → w set ≠ nI 0 → BV (setV s set (nW s)) 500000
theorem sumC_hi {s : Row} (hW : WF s) {E : Nat → Nat} : ∀ {n : Nat}, (∀ k, k < n → E k < nE s) → ∀ a, sumC s E n a ≤ 999 * n := by
  intro n
  induction n with
  | zero => intro _ a; simp [sumC]
  | succ n ih =>
    intro h a
    have h1 := ih (fun k hk => h k (by omega)) a
    have h0 := hW.am0 (h n (by omega))
    have h9 := hW.am9 (h n (by omega))
    rw [sumC]
    unfold ctr
    push_cast
    split <;> split <;> omega
theorem brS_hi {s : Row} (hW : WF s) {k : Nat} (hk : k < nW s) (a : Nat) : brS s k a ≤ 59940 := by
  obtain ⟨h1, h2, h3⟩ := wB_in hk
  have h4 := hW.mn60 h1
  have h5 := sumC_hi hW (E := brE s (wB s k)) (n := mn s (wB s k)) (fun j hj => brE_in hW h1 hj) a
  unfold brS
  omega
theorem setV_hi {s : Row} (hW : WF s) (set : Nat) : ∀ {m : Nat}, m ≤ nW s → ∀ a, setV s set m a ≤ 58941 + 59940 * m := by
  intro m
  induction m with
  | zero =>
    intro _ a
    have h1 := bal_hi hW _ hW.hn a
    have h2 := hW.hn
    have h3 := hW.n60
    show bal s (hE s) a ≤ _
    omega
  | succ m ih =>
    intro hm a
    have h1 := ih (by omega) a
    have h2 := brS_hi hW (k := m) (by omega) a
    rw [setV]
    push_cast
    split <;> omega
theorem stepK_ok {s w : Row} (hW : WF s) (h5 : nW s ≤ 5) {set k : Nat} (hset : set < 2 ^ nW s) (hk : k < nW s) (h : ordOK s w) : ordOK s (stepK s w set k) := by
  unfold stepK
  by_cases hc : set.testBit k = false ∧ 0 < (w set).toInt ∧ canB s set k = true
  · rw [if_pos hc]
    intro t ht hne
    by_cases e : t = set ||| 2 ^ k
    · subst e
      have hv : BV (setV s set (nW s)) 500000 := h set hset (fun z => by rw [z] at hc; exact absurd hc.2.1 (by decide))
      obtain ⟨b1, b2, b3⟩ := wB_in hk
      have hcan : fstR s (setV s set (nW s)) (brE s (wB s k)) 0 (mn s (wB s k)) = -100009 := of_decide_eq_true hc.2.2
      have hall := fun j hj => fstR_none _ 0 (fun j hj => by have := brE_in hW b1 (k := j) (by omega); have := hW.n60; omega) hcan j (Nat.zero_le _) (by rw [Nat.zero_add]; exact hj)
      have ht2 := trV_all (s := s) (v := setV s set (nW s)) (E := brE s (wB s k)) (n := mn s (wB s k)) hall
      have hbd := trV_bd hW hv (E := brE s (wB s k)) (j := mn s (wB s k)) (fun j hj => brE_in hW b1 hj)
      intro a ha
      have h6 := (hbd a ha).1
      rw [ht2.1, allV_sum] at h6
      have h7 := setV_or (s := s) hc.1 (nW s) a
      rw [if_pos hk] at h7
      have h8 := setV_hi hW (set ||| 2 ^ k) (Nat.le_refl (nW s)) a
      unfold brS at h7
      exact ⟨by omega, by omega⟩
    · rw [pk_un e] at hne
      exact h t ht hne
  · rw [if_neg hc]; exact h
theorem ordK_ok {s w : Row} (hW : WF s) (h5 : nW s ≤ 5) {set : Nat} (hset : set < 2 ^ nW s) (h : ordOK s w) : ∀ {k : Nat}, k ≤ nW s → ordOK s (ordK s w set k) := by
  intro k
  induction k with
  | zero => intro _; exact h
  | succ k ih => intro hk; exact stepK_ok hW h5 hset (by omega) (ih (by omega))
theorem ord0_ok {s : Row} (hW : WF s) : ordOK s ord0 := by
  intro set hset hne
  have e : set = 0 := by
    by_cases e : set = 0
    · exact e
    · exact absurd (show ord0 set = nI 0 from if_neg e) hne
  subst e
  have key : ∀ m a, setV s 0 m a = bal s (hE s) a := by
    intro m
    induction m with
    | zero => intro a; rfl
    | succ m ih => intro a; rw [setV, ih]; simp
  intro a ha
  rw [key]
  have h1 := bal_bd hW hW.hn a ha
  exact ⟨h1.1, by omega⟩
theorem ordS_ok {s : Row} (hW : WF s) (h5 : nW s ≤ 5) : ∀ {t : Nat}, t ≤ 2 ^ nW s → ordOK s (ordS s t) := by
  intro t
  induction t with
  | zero => intro _; exact ord0_ok hW
  | succ t ih => intro ht; exact ordK_ok hW h5 (by omega) (ih (by omega)) (Nat.le_refl _)
theorem pow5 {n : Nat} (h : n ≤ 5) : 2 ^ n ≤ 32 := Nat.pow_le_pow_right (by omega) h
theorem or_lt {set k n : Nat} (h : set < 2 ^ n) (hk : k < n) : set ||| 2 ^ k < 2 ^ n := Nat.or_lt_two_pow h (Nat.pow_lt_pow_right (by omega) hk)
theorem shl1 : ∀ k, k < 6 → nI 1 <<< (nI k &&& 31) = nI (2 ^ k) := by decide +kernel
theorem or32 : ∀ a, a < 32 → ∀ k, k < 5 → nI a ||| nI (2 ^ k) = nI (a ||| 2 ^ k) := by decide +kernel
theorem and32 : ∀ a, a < 32 → ∀ k, k < 5 → nI a &&& nI (2 ^ k) = (if a.testBit k = true then nI (2 ^ k) else nI 0) := by decide +kernel
theorem shr32 : ∀ a, a < 32 → ∀ k, k < 5 → nI a >>> (nI k &&& 31) &&& nI 1 = bI (a.testBit k) := by decide +kernel
theorem or_eq {a k : Nat} : a ||| 2 ^ k = a ↔ a.testBit k = true := by
  constructor
  · intro h
    cases e : a.testBit k with
    | true => rfl
    | false => exact absurd h (or_ne e)
  · intro h
    apply Nat.eq_of_testBit_eq
    intro i
    rw [Nat.testBit_or, Nat.testBit_two_pow]
    by_cases hk : k = i
    · subst hk; simp [h]
    · simp [hk]
theorem stepK_cong {s w w' : Row} (h5 : nW s ≤ 5) {set k : Nat} (hset : set < 2 ^ nW s) (hk : k < nW s) (h : ∀ i, i < 32 → w i = w' i) : ∀ i, i < 32 → stepK s w set k i = stepK s w' set k i := by
  have h32 := pow5 h5
  have hor := or_lt hset hk
  intro i hi
  unfold stepK
  rw [h set (by omega)]
  by_cases hc : set.testBit k = false ∧ 0 < (w' set).toInt ∧ canB s set k = true
  · rw [if_pos hc, if_pos hc]
    by_cases e : i = set ||| 2 ^ k
    · rw [e, pk_us, pk_us, h _ (by omega)]
    · rw [pk_un e, pk_un e]; exact h i hi
  · rw [if_neg hc, if_neg hc]; exact h i hi
theorem ordK_cong {s w w' : Row} (h5 : nW s ≤ 5) {set : Nat} (hset : set < 2 ^ nW s) (h : ∀ i, i < 32 → w i = w' i) : ∀ {k : Nat}, k ≤ nW s → ∀ i, i < 32 → ordK s w set k i = ordK s w' set k i := by
  intro k
  induction k with
  | zero => intro _; exact h
  | succ k ih => intro hk; exact stepK_cong h5 hset (by omega) (ih (by omega))
theorem nW_le (s : Row) : nW s ≤ nB s := cntF_le _ _
theorem and_t {a k : Nat} (ha : a < 32) (hk : k < 5) (h : (nI a &&& nI (2 ^ k)).toInt ≠ 0) : a.testBit k = true := by
  rw [and32 a ha k hk] at h
  cases e : a.testBit k with
  | true => rfl
  | false => rw [e] at h; exact absurd rfl h
theorem and_f {a k : Nat} (ha : a < 32) (hk : k < 5) (h : (nI a &&& nI (2 ^ k)).toInt = 0) : a.testBit k = false := by
  rw [and32 a ha k hk] at h
  cases e : a.testBit k with
  | false => rfl
  | true =>
    rw [e, if_pos rfl] at h
    have h2 : 2 ^ k < 2147483648 := by
      have := Nat.pow_le_pow_right (n := 2) (by omega) (show k ≤ 5 by omega)
      omega
    rw [nI_tI h2] at h
    have h3 : 0 < 2 ^ k := Nat.pos_of_ne_zero (by simp)
    omega
