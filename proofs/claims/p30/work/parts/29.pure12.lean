/-! what the looking methods answer -/
def ctN (s : Row) (st tl : Nat) : Nat → Int32
  | 0 => nI (nE s)
  | 1 => nI (hE s)
  | 2 => nI (dep s (hE s))
  | 3 => nI (nB s)
  | 4 => nI (cntF (waitB s) (nB s))
  | 5 => nI (cntF (loudB s) (nB s))
  | 6 => s 3
  | 7 => nI (nS s)
  | 8 => nI (cntF (fun k => !sealB s k) (nS s))
  | 9 => nI (cntF (fun e => !fitE s e) (nE s))
  | 10 => fstF (fun e => !fitE s e) 0 (nE s)
  | 11 => nI (cntF (leafB s) (nE s))
  | 12 => s 1443 + s 1444
  | 13 => nI st
  | 14 => nI tl
  | _ => -100001
def ctR (s : Row) (st tl : Nat) (x : Int32) : Int32 := if hasN x 15 = true then ctN s st tl (cl x) else -100001
def totI (v : Nat → Int) : Nat → Int32
  | 0 => nI 0
  | n + 1 => totI v n + iI (v n)
theorem totF_I {f : Row} {v : Nat → Int} (h : SV f v) : ∀ {n : Nat}, n ≤ 6 → totF f n = totI v n := by
  intro n
  induction n with
  | zero => intro _; rfl
  | succ n ih => intro hn; rw [totF, totI, ih (by omega), h n (by omega)]
def etN (s : Row) (e : Nat) : Nat → Int32
  | 0 => me s e 1
  | 1 => me s e 2
  | 2 => me s e 3
  | 3 => me s e 4
  | 4 => me s e 0
  | 5 => me s e 5
  | 6 => bI (fitE s e)
  | 7 => bI (onP s e (hE s))
  | 8 => me s e 6
  | 9 => nI (dep s e)
  | 10 => totI (bal s e) 6
  | _ => -100001
def etR (s : Row) (x w : Int32) : Int32 := if hasN x (nE s) = true ∧ hasN w 11 = true then etN s (cl x) (cl w) else -100001
def baR (s : Row) (a x : Int32) : Int32 := if inR a (nI 0) (nI 5) = true ∧ hasN x (nE s) = true then iI (bal s (cl x) (cl a)) else -100001
/-- the entry of the chain at a place -/
def cE (s : Row) (k : Nat) : Nat := up s (hE s) (dep s (hE s) - 1 - k)
def ocR (s : Row) (x : Int32) : Int32 := if x.toInt < 0 then -100001 else if hasN x (dep s (hE s)) = true then nI (cE s (cl x)) else -100009
def brN (s : Row) (b : Nat) : Nat → Int32
  | 0 => nI (lf s b)
  | 1 => nI (mn s b)
  | 2 => nI (brE s b 0)
  | 3 => mb s b 2
  | 4 => if loudB s b = true then nI 1 else mb s b 3
  | 5 => nI (meet s (lf s b) (hE s))
  | _ => -100001
def brR (s : Row) (x w : Int32) : Int32 := if hasN x (nB s) = true ∧ hasN w 6 = true then brN s (cl x) (cl w) else -100001
def sdN (s : Row) (k : Nat) : Nat → Int32
  | 0 => nI (sE s k)
  | 1 => msl s k 1
  | 2 => bI (sealB s k)
  | _ => -100001
def sdR (s : Row) (x w : Int32) : Int32 := if hasN x (nS s) = true ∧ hasN w 3 = true then sdN s (cl x) (cl w) else -100001
def cmR (s : Row) (x y : Int32) : Int32 := if hasN x (nE s) = true ∧ hasN y (nE s) = true then nI (meet s (cl x) (cl y)) else -100001
def flR (s : Row) (x w : Int32) : Int32 := if adP s x w = true then (if w = nI 0 then fstR s (bal s (hE s)) (brE s (cl x)) 0 (mn s (cl x)) else nI (adN s (cl x))) else -100001
def orR (s : Row) : Int32 := if 5 < nW s then -100009 else ordS s (2 ^ nW s) (2 ^ nW s - 1)
/-- the greatest balance of an account at the first j entries of the chain, and the first entry with it -/
def pkM (s : Row) (a : Nat) : Nat → Int
  | 0 => 0
  | j + 1 => if pkM s a j < bal s (cE s j) a then bal s (cE s j) a else pkM s a j
def pkE (s : Row) (a : Nat) : Nat → Nat
  | 0 => 0
  | j + 1 => if pkM s a j < bal s (cE s j) a then cE s j else pkE s a j
def pkR (s : Row) (a w : Int32) : Int32 := if inR a (nI 0) (nI 5) = true ∧ inR w (nI 0) (nI 1) = true then (if w = nI 0 then iI (pkM s (cl a) (dep s (hE s))) else nI (pkE s (cl a) (dep s (hE s)))) else -100001
theorem cE_in {s : Row} (hW : WF s) {k : Nat} (hk : k < dep s (hE s)) : cE s k < nE s := up_in hW _ _ hW.hn (by omega)
theorem up_last {s : Row} (hW : WF s) : ∀ (e : Nat), e < nE s → up s e (dep s e - 1) = 0 := by
  intro e
  induction e using Nat.strongRecOn with
  | ind e ih =>
    intro he
    by_cases e0 : e = 0
    · subst e0; rfl
    · have hp := hW.pl (Nat.pos_of_ne_zero e0) he
      have h1 := dep_ge1 s (pa s e)
      rw [dep_s hW (Nat.pos_of_ne_zero e0) he, show dep s (pa s e) + 1 - 1 = (dep s (pa s e) - 1) + 1 by omega, up]
      exact ih _ hp (by omega)
theorem cE_0 {s : Row} (hW : WF s) : cE s 0 = 0 := by unfold cE; rw [Nat.sub_zero]; exact up_last hW _ hW.hn
theorem cE_s {s : Row} (hW : WF s) {k : Nat} (hk : k + 1 < dep s (hE s)) : 0 < cE s (k + 1) ∧ pa s (cE s (k + 1)) = cE s k := by
  unfold cE
  refine ⟨up_pos hW _ _ hW.hn (by omega), ?_⟩
  rw [← up_s]
  congr 1; omega
/-- the balances along the chain -/
theorem bal_c {s : Row} (hW : WF s) {k : Nat} (hk : k + 1 < dep s (hE s)) (a : Nat) : bal s (cE s (k + 1)) a = bal s (cE s k) a + ctr s (cE s (k + 1)) a := by
  obtain ⟨h1, h2⟩ := cE_s hW hk
  rw [bal_s hW h1 (cE_in hW hk), h2]
theorem ctr_0 {s : Row} (hW : WF s) (a : Nat) : ctr s 0 a = 0 := by
  have h := hW.k0
  have h1 : bg s 0 = false := by unfold bg kd; rw [h]; rfl
  have h2 : tk s 0 = false := by unfold tk kd; rw [h]; rfl
  unfold ctr
  rw [h1, h2, if_neg (fun z => by cases z.1), if_neg (fun z => by cases z.1)]
  rfl
def prevV (s : Row) : Nat → Nat → Int
  | 0, _ => 0
  | j + 1, a => bal s (cE s j) a
theorem prevV_s {s : Row} (hW : WF s) {j : Nat} (hj : j < dep s (hE s)) (a : Nat) : addV s (prevV s j) (cE s j) a = prevV s (j + 1) a := by
  cases j with
  | zero =>
    show 0 + ctr s (cE s 0) a = bal s (cE s 0) a
    rw [cE_0 hW, ctr_0 hW, bal_0]; rfl
  | succ k =>
    show bal s (cE s k) a + ctr s (cE s (k + 1)) a = bal s (cE s (k + 1)) a
    rw [bal_c hW hj]
theorem pkM_bd {s : Row} (hW : WF s) {a : Nat} (ha : a < 6) : ∀ {j : Nat}, j ≤ dep s (hE s) → 0 ≤ pkM s a j ∧ pkM s a j ≤ 58941 := by
  intro j
  induction j with
  | zero => intro _; exact ⟨Int.le_refl 0, by show (0 : Int) ≤ _; omega⟩
  | succ j ih =>
    intro hj
    have h1 := ih (by omega)
    have h2 := bal_bd hW (cE_in hW (k := j) (by omega)) a ha
    rw [pkM]
    split <;> omega
/-! a proof is checked -/
def p0 (T : Row) (tl : Nat) : Int32 := prF T tl 0 0 0 0
def pN (T : Row) (tl k : Nat) : Nat := prN T tl 0 0 0 0 k
def pS (T : Row) (tl : Nat) : Nat := prS T tl 0 0 0 0
def ckB (s T : Row) (tl t : Nat) : Bool := decide (dep s (pN T tl 0) - 1 + t < dep s (hE s)) && decide (me s (cE s (dep s (pN T tl 0) - 1 + t)) 5 = nI (pN T tl (t + 1)))
def ckL (s T : Row) (tl : Nat) : Nat → Nat → Int32
  | t, 0 => nI t
  | t, r + 1 => if ckB s T tl t = true then ckL s T tl (t + 1) r else iI (-1 - (t : Int))
def ckR (s T : Row) (tl : Nat) : Int32 := if p0 T tl = iI (-1) then (if hasN (nI (pN T tl 0)) (nE s) = true ∧ onP s (pN T tl 0) (hE s) = true then ckL s T tl 0 (pS T tl - 1) else -100001) else iI (-1000) - p0 T tl
theorem prS_pos (T : Row) : ∀ (r i d v k : Nat), 1 ≤ prS T r i d v k := by
  intro r
  induction r with
  | zero => intro i d v k; rw [prS]; omega
  | succ r ih =>
    intro i d v k
    rw [prS]
    split
    · exact ih _ _ _ _
    · split
      · exact ih _ _ _ _
      · omega
theorem prN_lt {T : Row} {n : Nat} (hT : TOK T n) : ∀ (r i d v k x : Nat), i + r = n → vOK d v → prN T r i d v k x < 10000 := by
  intro r
  induction r with
  | zero => intro i d v k x _ hv; rw [prN]; have := vOK_lt hv; split <;> omega
  | succ r ih =>
    intro i d v k x hi hv
    rw [prN]
    split
    · rename_i hc; exact ih _ _ _ _ _ (by omega) (vOK_s hv hc)
    · split
      · split
        · exact vOK_lt hv
        · exact ih _ _ _ _ _ (by omega) vOK_0
      · omega
theorem pN_lt {T : Row} {n : Nat} (hT : TOK T n) (k : Nat) : pN T n k < 10000 := prN_lt hT _ _ _ _ _ _ (by omega) vOK_0
theorem pr_cong {T T' : Row} {n : Nat} (h : ∀ i, i < n → T i = T' i) : ∀ (r i d v k : Nat), i + r = n → prF T r i d v k = prF T' r i d v k ∧ prS T r i d v k = prS T' r i d v k ∧ ∀ x, prN T r i d v k x = prN T' r i d v k x := by
  intro r
  induction r with
  | zero => intro i d v k _; exact ⟨rfl, rfl, fun _ => rfl⟩
  | succ r ih =>
    intro i d v k hi
    have e : chr T i = chr T' i := by unfold chr; rw [h i (by omega)]
    obtain ⟨a1, a2, a3⟩ := ih (i + 1) (d + 1) (v * 10 + (chr T' i - 48)) k (by omega)
    obtain ⟨b1, b2, b3⟩ := ih (i + 1) 0 0 (k + 1) (by omega)
    refine ⟨?_, ?_, fun x => ?_⟩
    · rw [prF, prF, e, a1, b1]
    · rw [prS, prS, e, a2, b2]
    · rw [prN, prN, e, a3, b3]
theorem ckR_cong {s T T' : Row} {n : Nat} (h : ∀ i, i < n → T i = T' i) : ckR s T n = ckR s T' n := by
  obtain ⟨a1, a2, a3⟩ := pr_cong h n 0 0 0 0 (by omega)
  have e1 : p0 T n = p0 T' n := a1
  have e2 : pS T n = pS T' n := a2
  have e3 : ∀ k, pN T n k = pN T' n k := a3
  have e4 : ∀ (r t : Nat), ckL s T n t r = ckL s T' n t r := by
    intro r
    induction r with
    | zero => intro t; rfl
    | succ r ih =>
      intro t
      have eb : ckB s T n t = ckB s T' n t := by unfold ckB; rw [e3, e3]
      rw [ckL, ckL, eb, ih]
  unfold ckR
  rw [e1, e2, e3, e4]
