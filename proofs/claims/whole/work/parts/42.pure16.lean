/-- the character at a place of the text, or nothing -/
def sg (T : Row) (tl i : Nat) : Int := if i < tl then ((chr T i : Nat) : Int) else -1
theorem sg_lt {T : Row} {tl i : Nat} (h : i < tl) : sg T tl i = ((chr T i : Nat) : Int) := if_pos h
theorem sg_ge {T : Row} {tl i : Nat} (h : ¬ i < tl) : sg T tl i = -1 := if_neg h
theorem sg_b {T : Row} {tl : Nat} (hT : TOK T tl) (i : Nat) : -1 ≤ sg T tl i ∧ sg T tl i ≤ 255 := by
  unfold sg
  split
  · rename_i h; have := (hT.2 i h).2; omega
  · omega
theorem sg_t {T : Row} {tl i : Nat} (hT : TOK T tl) (h : inR (iI (sg T tl i)) (nI 48) (nI 57) = true) : i < tl ∧ 48 ≤ chr T i ∧ chr T i ≤ 57 := by
  have hb := sg_b hT i
  have h1 := of_decide_eq_true h
  rw [iI_toInt (by omega) (by omega), nI_tI (by omega), nI_tI (by omega)] at h1
  by_cases hc : i < tl
  · rw [sg_lt hc] at h1; omega
  · rw [sg_ge hc] at h1; omega
theorem sg_f {T : Row} {tl i : Nat} (hT : TOK T tl) (h : inR (iI (sg T tl i)) (nI 48) (nI 57) = false) : ¬ (i < tl ∧ 48 ≤ chr T i ∧ chr T i ≤ 57) := by
  intro h2
  have hb := sg_b hT i
  have h1 := of_decide_eq_false h
  rw [iI_toInt (by omega) (by omega), nI_tI (by omega), nI_tI (by omega), sg_lt h2.1] at h1
  omega
theorem nd8t {ch d v : Nat} (h1 : 48 ≤ ch ∧ ch ≤ 57) (h2 : d = 0 ∨ (d < 4 ∧ v ≠ 0)) : nd ch d v = true := by
  unfold nd
  rw [decide_eq_true h1.1, decide_eq_true h1.2]
  rcases h2 with h | h
  · rw [decide_eq_true h]; rfl
  · rw [decide_eq_true h.1, decide_eq_false h.2]; simp
theorem nd8f {ch d v : Nat} (h : ¬ ((48 ≤ ch ∧ ch ≤ 57) ∧ (d = 0 ∨ (d < 4 ∧ v ≠ 0)))) : nd ch d v = false := by
  cases e : nd ch d v with
  | false => rfl
  | true =>
    obtain ⟨a1, a2, a3⟩ := nd_dig e
    exact absurd ⟨⟨a1, a2⟩, a3⟩ h
theorem nm_no {T : Row} {tl i d v : Nat} (h : ¬ (i < tl ∧ (48 ≤ chr T i ∧ chr T i ≤ 57) ∧ (d = 0 ∨ (d < 4 ∧ v ≠ 0)))) : nmJ T (tl - i) i d v = i ∧ nmV T (tl - i) i d v = v := by
  cases e : tl - i with
  | zero => exact ⟨rfl, rfl⟩
  | succ r =>
    have h1 : nd (chr T i) d v = false := nd8f (fun z => h ⟨by omega, z⟩)
    rw [nmJ, nmV, h1]; exact ⟨rfl, rfl⟩
theorem nm_yes {T : Row} {tl i d v : Nat} (h : i < tl) (h1 : 48 ≤ chr T i ∧ chr T i ≤ 57) (h2 : d = 0 ∨ (d < 4 ∧ v ≠ 0)) : nmJ T (tl - i) i d v = nmJ T (tl - (i + 1)) (i + 1) (d + 1) (v * 10 + (chr T i - 48)) ∧ nmV T (tl - i) i d v = nmV T (tl - (i + 1)) (i + 1) (d + 1) (v * 10 + (chr T i - 48)) := by
  rw [show tl - i = (tl - (i + 1)) + 1 by omega, nmJ, nmV, nd8t h1 h2]
  exact ⟨rfl, rfl⟩
def nmR (T : Row) (tl i : Nat) : Int := if nmJ T (tl - i) i 0 0 = i then -1 else ((nmV T (tl - i) i 0 0 : Nat) : Int)
theorem nm_le {T : Row} {tl i : Nat} (h : i ≤ tl) : i ≤ nmJ T (tl - i) i 0 0 ∧ nmJ T (tl - i) i 0 0 ≤ tl := by
  have := nm_in T (tl - i) i 0 0
  omega
theorem nmV_lt (T : Row) (tl i : Nat) : nmV T (tl - i) i 0 0 < 10000 := vOK_lt (nm_ok T (tl - i) i 0 0 vOK_0)
/-- reading: n numbers have been read, up to place i -/
def RI1 (T : Row) (tl i n : Nat) (t : Row) : Prop := 2 * n ≤ i ∧ i ≤ tl ∧ p0 T tl = prF T (tl - i) i 0 0 n ∧ pS T tl = prS T (tl - i) i 0 0 n ∧ (∀ x, n ≤ x → pN T tl x = prN T (tl - i) i 0 0 n x) ∧ (∀ x, x < n → t x = nI (pN T tl x))
def RI0 (T : Row) (tl i n : Nat) (t : Row) : Prop := n ≤ 51 ∧ i ≤ tl ∧ (i < tl → p0 T tl = nI i) ∧ (¬ i < tl → p0 T tl = iI (-1) ∧ pS T tl = n ∧ ∀ x, x < n → t x = nI (pN T tl x))
theorem RI_0 (T t : Row) (tl : Nat) : RI1 T tl 0 0 t := ⟨by omega, by omega, rfl, rfl, fun _ _ => rfl, fun x h => absurd h (Nat.not_lt_zero x)⟩
theorem RI_run {T : Row} {tl i n : Nat} {t : Row} (h : RI1 T tl i n t) : p0 T tl = prF T (tl - nmJ T (tl - i) i 0 0) (nmJ T (tl - i) i 0 0) (nmJ T (tl - i) i 0 0 - i) (nmV T (tl - i) i 0 0) n ∧ pS T tl = prS T (tl - nmJ T (tl - i) i 0 0) (nmJ T (tl - i) i 0 0) (nmJ T (tl - i) i 0 0 - i) (nmV T (tl - i) i 0 0) n ∧ (∀ x, n ≤ x → pN T tl x = prN T (tl - nmJ T (tl - i) i 0 0) (nmJ T (tl - i) i 0 0) (nmJ T (tl - i) i 0 0 - i) (nmV T (tl - i) i 0 0) n x) := by
  obtain ⟨h1, h2, h3, h4, h5, h6⟩ := h
  obtain ⟨a1, a2, a3⟩ := nm_run T (tl - i) i 0 0 n
  rw [show i + (tl - i) = tl by omega, Nat.zero_add] at a1 a2 a3
  exact ⟨h3.trans a1, h4.trans a2, fun x hx => (h5 x hx).trans (a3 x)⟩
theorem nm_end {T : Row} {tl i : Nat} (hi : i ≤ tl) (h : nmJ T (tl - i) i 0 0 < tl) : nd (chr T (nmJ T (tl - i) i 0 0)) (nmJ T (tl - i) i 0 0 - i) (nmV T (tl - i) i 0 0) = false := by
  have h1 := nm_stop T (tl - i) i 0 0 (by omega)
  rw [Nat.zero_add] at h1
  exact h1
theorem RI_bad1 {T : Row} {tl i n : Nat} {t : Row} (h : RI1 T tl i n t) (hj : nmJ T (tl - i) i 0 0 = i) : p0 T tl = nI i := by
  obtain ⟨a1, -, -⟩ := RI_run h
  have he := nm_end (T := T) h.2.1
  rw [hj, Nat.sub_self] at a1 he
  generalize nmV T (tl - i) i 0 0 = v at a1 he
  rw [a1]
  cases e : tl - i with
  | zero => rw [prF, if_pos (Or.inl rfl)]
  | succ r => rw [prF, if_neg (by rw [he (by omega)]; decide), if_neg (fun z => absurd z.1 (Nat.lt_irrefl 0))]
theorem RI_bad2 {T : Row} {tl i : Nat} {t : Row} (h : RI1 T tl i 0 t) (hs : ¬ sg T tl (nmJ T (tl - i) i 0 0) = 58) : p0 T tl = nI (nmJ T (tl - i) i 0 0) := by
  obtain ⟨a1, -, -⟩ := RI_run h
  have he := nm_end (T := T) h.2.1
  rw [a1]
  cases e : tl - nmJ T (tl - i) i 0 0 with
  | zero => rw [prF, if_pos (Or.inr rfl)]
  | succ r =>
    rw [prF, if_neg (by rw [he (by omega)]; decide), if_neg (fun z => hs (by rw [sg_lt (by omega)]; have z2 := z.2; unfold es at z2; rw [if_pos rfl] at z2; omega))]
theorem RI_go {T : Row} {tl i n : Nat} {t : Row} (h : RI1 T tl i n t) (hij : i < nmJ T (tl - i) i 0 0) (hjt : nmJ T (tl - i) i 0 0 < tl) (hs : chr T (nmJ T (tl - i) i 0 0) = es n) : RI1 T tl (nmJ T (tl - i) i 0 0 + 1) (n + 1) (upd t n (nI (nmV T (tl - i) i 0 0))) := by
  obtain ⟨a1, a2, a3⟩ := RI_run h
  have he := nm_end (T := T) h.2.1 hjt
  have hr : tl - nmJ T (tl - i) i 0 0 = (tl - (nmJ T (tl - i) i 0 0 + 1)) + 1 := by omega
  have h1 := h.1
  rw [hr] at a1 a2 a3
  rw [prF, if_neg (by rw [he]; decide), if_pos ⟨by omega, hs⟩] at a1
  rw [prS, if_neg (by rw [he]; decide), if_pos ⟨by omega, hs⟩] at a2
  refine ⟨by omega, by omega, a1, a2, ?_, ?_⟩
  · intro x hx
    rw [a3 x (by omega), prN, if_neg (by rw [he]; decide), if_pos ⟨by omega, hs⟩, if_neg (by omega)]
  · intro x hx
    by_cases e0 : x = n
    · rw [e0, pk_us, a3 n (Nat.le_refl _), prN, if_neg (by rw [he]; decide), if_pos ⟨by omega, hs⟩, if_pos rfl]
    · rw [pk_un e0]; exact h.2.2.2.2.2 x (by omega)
theorem RI_end {T : Row} {tl i n : Nat} {t : Row} (htl : tl ≤ 100) (h : RI1 T tl i n t) (hij : i < nmJ T (tl - i) i 0 0) (hn : n ≠ 0) (hs : ¬ sg T tl (nmJ T (tl - i) i 0 0) = 44) : RI0 T tl (nmJ T (tl - i) i 0 0) (n + 1) (upd t n (nI (nmV T (tl - i) i 0 0))) := by
  obtain ⟨a1, a2, a3⟩ := RI_run h
  have hle := nm_le (T := T) h.2.1
  have h1 := h.1
  by_cases hjt : nmJ T (tl - i) i 0 0 < tl
  · have he := nm_end (T := T) h.2.1 hjt
    have hr : tl - nmJ T (tl - i) i 0 0 = (tl - (nmJ T (tl - i) i 0 0 + 1)) + 1 := by omega
    have hne : ¬ (0 < nmJ T (tl - i) i 0 0 - i ∧ chr T (nmJ T (tl - i) i 0 0) = es n) := fun z => hs (by rw [sg_lt hjt]; have z2 := z.2; unfold es at z2; rw [if_neg hn] at z2; omega)
    rw [hr] at a1
    rw [prF, if_neg (by rw [he]; decide), if_neg hne] at a1
    exact ⟨by omega, by omega, fun _ => a1, fun z => absurd hjt z⟩
  · have hr : tl - nmJ T (tl - i) i 0 0 = 0 := by omega
    rw [hr] at a1 a2 a3
    rw [prF, if_neg (by omega)] at a1
    rw [prS] at a2
    refine ⟨by omega, by omega, fun z => absurd z hjt, fun _ => ⟨a1, a2, ?_⟩⟩
    intro x hx
    by_cases e0 : x = n
    · rw [e0, pk_us, a3 n (Nat.le_refl _), prN, if_pos rfl]
    · rw [pk_un e0]; exact h.2.2.2.2.2 x (by omega)
def rdR (T : Row) (tl : Nat) : Int := if p0 T tl = iI (-1) then ((pS T tl : Nat) : Int) else -1
theorem nI_m18 {n : Nat} (h : n < 2147483648) : ¬ nI n = iI (-1) := fun z => by
  have h1 := congrArg Int32.toInt z
  rw [nI_tI h, iI_toInt (by omega) (by omega)] at h1
  omega
/-! the first entry that fails -/
theorem brE_lt {s : Row} (hW : WF s) {b : Nat} (hb : b < nB s) {k : Nat} : ∀ {m : Nat}, k < m → m < mn s b → brE s b k < brE s b m := by
  intro m
  induction m with
  | zero => intro h _; omega
  | succ m ih =>
    intro h1 h2
    have h3 := brE_inc hW hb (k := m) h2
    by_cases e : k = m
    · rw [e]; exact h3
    · exact Nat.lt_trans (ih (by omega) (by omega)) h3
theorem fl_t {s : Row} (hW : WF s) {b : Nat} (hb : b < nB s) {v : Nat → Int} {k : Nat} (hk : trN s v (brE s b) k = k) (h1 : k < mn s b) (h2 : k < trN s v (brE s b) (mn s b)) (h : okE s v (brE s b) (mn s b) k = brE s b k) : aff s (trV s v (brE s b) k) (brE s b k) = true := by
  cases e : aff s (trV s v (brE s b) k) (brE s b k) with
  | true => rfl
  | false =>
    exfalso
    rw [trN_cnt] at hk h2
    obtain ⟨g1, g2, g3⟩ := nthF_is _ _ _ h2
    unfold okE at h
    rcases Nat.lt_trichotomy k (nthF (fun j => aff s (trV s v (brE s b) j) (brE s b j)) (mn s b) k) with q | q | q
    · have := brE_lt hW hb q g1; omega
    · rw [← q] at g2
      rw [show aff s (trV s v (brE s b) k) (brE s b k) = true from g2] at e
      cases e
    · have q1 := cntF_mono (fun j => aff s (trV s v (brE s b) j) (brE s b j)) (a := nthF (fun j => aff s (trV s v (brE s b) j) (brE s b j)) (mn s b) k + 1) (b := k) q
      have q2 := cntF_le (fun j => aff s (trV s v (brE s b) j) (brE s b j)) (nthF (fun j => aff s (trV s v (brE s b) j) (brE s b j)) (mn s b) k)
      omega
theorem fl_f {s : Row} {b : Nat} {v : Nat → Int} {k : Nat} (hk : trN s v (brE s b) k = k) (h1 : k < mn s b) (h : ¬ (k < trN s v (brE s b) (mn s b) ∧ okE s v (brE s b) (mn s b) k = brE s b k)) : aff s (trV s v (brE s b) k) (brE s b k) = false := by
  cases e : aff s (trV s v (brE s b) k) (brE s b k) with
  | false => rfl
  | true =>
    exfalso
    apply h
    have h3 : trN s v (brE s b) (k + 1) = k + 1 := by rw [trN, if_pos e, hk]
    have h4 := trN_mono s v (brE s b) (i := k + 1) (j := mn s b) h1
    refine ⟨by omega, ?_⟩
    unfold okE
    have h5 := nthF_at (fun j => aff s (trV s v (brE s b) j) (brE s b j)) h1 e
    rw [← trN_cnt, hk] at h5
    rw [h5]
theorem can_eq {s : Row} {v : Nat → Int} {E : Nat → Nat} {n : Nat} (hE : ∀ k, k < n → E k < 2147483648) : decide (fstR s v E 0 n = -100009) = decide (trN s v E n = n) := by
  by_cases h : trN s v E n = n
  · rw [decide_eq_true h, decide_eq_true (fstR_of n 0 (fun k _ hk => trN_full h k (by omega)))]
  · rw [decide_eq_false h, decide_eq_false (fun z => h ?_)]
    have h1 := fstR_none n 0 (fun k hk => hE k (by omega)) z
    have h2 : ∀ m, m ≤ n → trN s v E m = m := by
      intro m
      induction m with
      | zero => intro _; rfl
      | succ m ih => intro hm; rw [trN, if_pos (h1 m (by omega) (by omega)), ih (by omega)]
    exact h2 n (Nat.le_refl n)
theorem shr8 : ∀ a, a < 32 → ∀ k, k < 5 → (nI a >>> (nI k &&& 31)) &&& nI 1 = bI (a.testBit k) := by decide +kernel
theorem wK_lt {s : Row} (hW : WF s) {b : Nat} (hb : b < nB s) {k : Nat} (hk : k < adN s b) : okE s (bal s (hE s)) (brE s b) (mn s b) k < nE s := by
  have hk2 : k < cntF (fun j => aff s (trV s (bal s (hE s)) (brE s b) j) (brE s b j)) (mn s b) := by rw [← trN_cnt]; exact hk
  obtain ⟨h1, h2, h3⟩ := nthF_is _ _ _ hk2
  exact brE_in hW hb h1
