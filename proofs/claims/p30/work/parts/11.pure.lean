/-! the pure picture: the row s of the law's own side is the state; XR ties the class's row c to it -/
abbrev me (s : Row) (e f : Nat) : Int32 := s (5 + 7 * e + f)
abbrev mb (s : Row) (b f : Nat) : Int32 := s (425 + 4 * b + f)
abbrev msl (s : Row) (k f : Nat) : Int32 := s (465 + 2 * k + f)
abbrev nE (s : Row) : Nat := (s 0).toNatClampNeg
abbrev hE (s : Row) : Nat := (s 1).toNatClampNeg
abbrev nB (s : Row) : Nat := (s 2).toNatClampNeg
abbrev nS (s : Row) : Nat := (s 4).toNatClampNeg
abbrev pa (s : Row) (e : Nat) : Nat := (me s e 0).toNatClampNeg
abbrev kd (s : Row) (e : Nat) : Int := (me s e 1).toInt
abbrev a1 (s : Row) (e : Nat) : Nat := (me s e 2).toNatClampNeg
abbrev a2 (s : Row) (e : Nat) : Nat := (me s e 3).toNatClampNeg
abbrev am (s : Row) (e : Nat) : Int := (me s e 4).toInt
abbrev lf (s : Row) (b : Nat) : Nat := (mb s b 0).toNatClampNeg
abbrev mn (s : Row) (b : Nat) : Nat := (mb s b 1).toNatClampNeg
abbrev sE (s : Row) (k : Nat) : Nat := (msl s k 0).toNatClampNeg
def up (s : Row) : Nat → Nat → Nat
  | e, 0 => e
  | e, k + 1 => up s (pa s e) k
def depF (s : Row) : Nat → Nat → Nat
  | 0, _ => 1
  | f + 1, e => if e = 0 then 1 else depF s f (pa s e) + 1
def dep (s : Row) (e : Nat) : Nat := depF s e e
def onPF (s : Row) : Nat → Nat → Nat → Bool
  | 0, x, e => decide (x = e)
  | f + 1, x, e => if e ≤ x then decide (x = e) else onPF s f x (pa s e)
/-- x is on the path of e -/
def onP (s : Row) (x e : Nat) : Bool := onPF s e x e
def tk (s : Row) (e : Nat) : Bool := decide (kd s e = 2 ∨ kd s e = 3)
def bg (s : Row) (e : Nat) : Bool := decide (1 ≤ kd s e ∧ kd s e ≤ 3)
def ctr (s : Row) (e a : Nat) : Int := (if bg s e = true ∧ a = a2 s e then am s e else 0) - (if tk s e = true ∧ a = a1 s e then am s e else 0)
def balF (s : Row) : Nat → Nat → Nat → Int
  | 0, _, _ => 0
  | f + 1, e, a => if e = 0 then 0 else balF s f (pa s e) a + ctr s e a
def bal (s : Row) (e a : Nat) : Int := balF s e e a
def meetF (s : Row) : Nat → Nat → Nat → Nat
  | 0, x, _ => x
  | f + 1, x, y => if onP s x y = true then x else meetF s f (pa s x) y
def meet (s : Row) (x y : Nat) : Nat := meetF s x x y
def fitX (lk kk f t a : Int32) (e : Nat) : Int32 := (((((nI 31 * lk + nI 7 * kk) + nI 11 * f) + nI 13 * t) + nI 17 * a) + nI (19 * e)) - (((((nI 31 * lk + nI 7 * kk) + nI 11 * f) + nI 13 * t) + nI 17 * a) + nI (19 * e)) / nI 9973 * nI 9973
def fit (s : Row) (e : Nat) : Int32 := if e = 0 then 1 else fitX (me s (pa s e) 5) (me s e 1) (me s e 2) (me s e 3) (me s e 4) e
/-- the same out of the class's row, p being the parent -/
def xfit (c : Row) (e p : Nat) : Int32 := if e = 0 then 1 else fitX (c (5 + p * 7 + 5)) (c (5 + e * 7 + 0)) (c (5 + e * 7 + 1)) (c (5 + e * 7 + 2)) (c (5 + e * 7 + 3)) e
def fitE (s : Row) (e : Nat) : Bool := decide (me s e 5 = fit s e)
def waitB (s : Row) (b : Nat) : Bool := decide (mb s b 3 = 0)
def loudB (s : Row) (b : Nat) : Bool := waitB s b && decide ((s 3).toInt ≤ (mb s b 2).toInt)
/-- how many of the numbers below n are so -/
def cntF (f : Nat → Bool) : Nat → Nat
  | 0 => 0
  | n + 1 => cntF f n + (if f n = true then 1 else 0)
/-- all of r numbers from i on are so -/
def allF (f : Nat → Bool) : Nat → Nat → Bool
  | _, 0 => true
  | i, r + 1 => f i && allF f (i + 1) r
def leafB (s : Row) (e : Nat) : Bool := allF (fun k => !decide (pa s k = e)) (e + 1) (nE s - (e + 1))
/-- the first of r numbers from i on that is so, or NONE -/
def fstF (f : Nat → Bool) : Nat → Nat → Int32
  | _, 0 => -100009
  | i, r + 1 => if f i = true then nI i else fstF f (i + 1) r
def sealB (s : Row) (k : Nat) : Bool := decide (me s (sE s k) 5 = msl s k 1)
/-- the k-th entry of a branch, from its first one on -/
def brE (s : Row) (b k : Nat) : Nat := up s (lf s b) (mn s b - 1 - k)
def WFe (s : Row) (e : Nat) : Prop := (0 < e → me s e 0 = nI (pa s e) ∧ pa s e < e) ∧ me s e 2 = nI (a1 s e) ∧ a1 s e < 6 ∧ me s e 3 = nI (a2 s e) ∧ a2 s e < 6 ∧ 0 ≤ am s e ∧ am s e ≤ 999 ∧ (tk s e = true → a1 s e ≠ a2 s e)
def WFb (s : Row) (b : Nat) : Prop := mb s b 0 = nI (lf s b) ∧ lf s b < nE s ∧ mb s b 1 = nI (mn s b) ∧ 1 ≤ mn s b ∧ mn s b < dep s (lf s b)
def WFs (s : Row) (k : Nat) : Prop := msl s k 0 = nI (sE s k) ∧ sE s k < nE s
/-- a state as it may be -/
def WF (s : Row) : Prop := (s 0 = nI (nE s) ∧ 1 ≤ nE s ∧ nE s ≤ 60) ∧ (s 1 = nI (hE s) ∧ hE s < nE s) ∧ (s 2 = nI (nB s) ∧ nB s ≤ 10) ∧ (s 4 = nI (nS s) ∧ nS s ≤ 8) ∧ me s 0 1 = 0 ∧ (∀ e, e < nE s → WFe s e) ∧ (∀ b, b < nB s → WFb s b) ∧ (∀ k, k < nS s → WFs s k) ∧ (∀ e, e < nE s → ∀ a, a < 6 → 0 ≤ bal s e a)
/-- the class's row c holds the state s -/
def XR (s c : Row) : Prop := (c 0 = s 0 ∧ c 1 = s 1 ∧ c 2 = s 3 ∧ c 3 = s 2 ∧ c 4 = s 4) ∧ (∀ e, e < 60 → c (5 + e * 7 + 0) = me s e 1 ∧ c (5 + e * 7 + 1) = me s e 2 ∧ c (5 + e * 7 + 2) = me s e 3 ∧ c (5 + e * 7 + 3) = me s e 4 ∧ c (5 + e * 7 + 4) = me s e 0 ∧ c (5 + e * 7 + 5) = me s e 5 ∧ c (5 + e * 7 + 6) = me s e 6) ∧ (∀ b, b < 10 → c (425 + b * 5 + 0) = mb s b 0 ∧ c (425 + b * 5 + 1) = mb s b 1 ∧ c (425 + b * 5 + 3) = mb s b 2 ∧ c (425 + b * 5 + 4) = mb s b 3) ∧ (∀ b, b < nB s → c (425 + b * 5 + 2) = nI (brE s b 0)) ∧ (∀ k, k < 8 → c (475 + k * 2 + 0) = msl s k 0 ∧ c (475 + k * 2 + 1) = msl s k 1)
theorem WF.n {s : Row} (h : WF s) : s 0 = nI (nE s) := h.1.1
theorem WF.n1 {s : Row} (h : WF s) : 1 ≤ nE s := h.1.2.1
theorem WF.n60 {s : Row} (h : WF s) : nE s ≤ 60 := h.1.2.2
theorem WF.h {s : Row} (h : WF s) : s 1 = nI (hE s) := h.2.1.1
theorem WF.hn {s : Row} (h : WF s) : hE s < nE s := h.2.1.2
theorem WF.b {s : Row} (h : WF s) : s 2 = nI (nB s) := h.2.2.1.1
theorem WF.b10 {s : Row} (h : WF s) : nB s ≤ 10 := h.2.2.1.2
theorem WF.s {s : Row} (h : WF s) : s 4 = nI (nS s) := h.2.2.2.1.1
theorem WF.s8 {s : Row} (h : WF s) : nS s ≤ 8 := h.2.2.2.1.2
theorem WF.k0 {s : Row} (h : WF s) : me s 0 1 = 0 := h.2.2.2.2.1
theorem WF.e {s : Row} (h : WF s) {e : Nat} (he : e < nE s) : WFe s e := h.2.2.2.2.2.1 e he
theorem WF.br {s : Row} (h : WF s) {b : Nat} (hb : b < nB s) : WFb s b := h.2.2.2.2.2.2.1 b hb
theorem WF.se {s : Row} (h : WF s) {k : Nat} (hk : k < nS s) : WFs s k := h.2.2.2.2.2.2.2.1 k hk
theorem WF.ok {s : Row} (h : WF s) {e : Nat} (he : e < nE s) {a : Nat} (ha : a < 6) : 0 ≤ bal s e a := h.2.2.2.2.2.2.2.2 e he a ha
theorem WF.p {s : Row} (h : WF s) {e : Nat} (h0 : 0 < e) (he : e < nE s) : me s e 0 = nI (pa s e) := ((h.e he).1 h0).1
theorem WF.pl {s : Row} (h : WF s) {e : Nat} (h0 : 0 < e) (he : e < nE s) : pa s e < e := ((h.e he).1 h0).2
theorem XR.n {s c : Row} (h : XR s c) : c 0 = s 0 := h.1.1
theorem XR.h {s c : Row} (h : XR s c) : c 1 = s 1 := h.1.2.1
theorem XR.pt {s c : Row} (h : XR s c) : c 2 = s 3 := h.1.2.2.1
theorem XR.b {s c : Row} (h : XR s c) : c 3 = s 2 := h.1.2.2.2.1
theorem XR.s {s c : Row} (h : XR s c) : c 4 = s 4 := h.1.2.2.2.2
theorem XR.xkd {s c : Row} (h : XR s c) {e : Nat} (he : e < 60) : c (5 + e * 7 + 0) = me s e 1 := (h.2.1 e he).1
theorem XR.xa1 {s c : Row} (h : XR s c) {e : Nat} (he : e < 60) : c (5 + e * 7 + 1) = me s e 2 := (h.2.1 e he).2.1
theorem XR.xa2 {s c : Row} (h : XR s c) {e : Nat} (he : e < 60) : c (5 + e * 7 + 2) = me s e 3 := (h.2.1 e he).2.2.1
theorem XR.xam {s c : Row} (h : XR s c) {e : Nat} (he : e < 60) : c (5 + e * 7 + 3) = me s e 4 := (h.2.1 e he).2.2.2.1
theorem XR.p {s c : Row} (h : XR s c) {e : Nat} (he : e < 60) : c (5 + e * 7 + 4) = me s e 0 := (h.2.1 e he).2.2.2.2.1
theorem XR.l {s c : Row} (h : XR s c) {e : Nat} (he : e < 60) : c (5 + e * 7 + 5) = me s e 5 := (h.2.1 e he).2.2.2.2.2.1
theorem XR.o {s c : Row} (h : XR s c) {e : Nat} (he : e < 60) : c (5 + e * 7 + 6) = me s e 6 := (h.2.1 e he).2.2.2.2.2.2
theorem XR.xlf {s c : Row} (h : XR s c) {b : Nat} (hb : b < 10) : c (425 + b * 5 + 0) = mb s b 0 := (h.2.2.1 b hb).1
theorem XR.xmn {s c : Row} (h : XR s c) {b : Nat} (hb : b < 10) : c (425 + b * 5 + 1) = mb s b 1 := (h.2.2.1 b hb).2.1
theorem XR.pl {s c : Row} (h : XR s c) {b : Nat} (hb : b < 10) : c (425 + b * 5 + 3) = mb s b 2 := (h.2.2.1 b hb).2.2.1
theorem XR.st {s c : Row} (h : XR s c) {b : Nat} (hb : b < 10) : c (425 + b * 5 + 4) = mb s b 3 := (h.2.2.1 b hb).2.2.2
theorem XR.fst {s c : Row} (h : XR s c) {b : Nat} (hb : b < nB s) : c (425 + b * 5 + 2) = nI (brE s b 0) := h.2.2.2.1 b hb
theorem XR.se {s c : Row} (h : XR s c) {k : Nat} (hk : k < 8) : c (475 + k * 2 + 0) = msl s k 0 := (h.2.2.2.2 k hk).1
theorem XR.sl {s c : Row} (h : XR s c) {k : Nat} (hk : k < 8) : c (475 + k * 2 + 1) = msl s k 1 := (h.2.2.2.2 k hk).2
theorem XR.xpa {s c : Row} (h : XR s c) (hW : WF s) {e : Nat} (h0 : 0 < e) (he : e < nE s) : c (5 + e * 7 + 4) = nI (pa s e) := by
  rw [h.p (Nat.lt_of_lt_of_le he hW.n60), hW.p h0 he]
theorem XR.nn {s c : Row} (h : XR s c) (hW : WF s) : c 0 = nI (nE s) := by rw [h.n, ← hW.n]
theorem XR.hh {s c : Row} (h : XR s c) (hW : WF s) : c 1 = nI (hE s) := by rw [h.h, ← hW.h]
theorem XR.bb {s c : Row} (h : XR s c) (hW : WF s) : c 3 = nI (nB s) := by rw [h.b, ← hW.b]
theorem XR.ss {s c : Row} (h : XR s c) (hW : WF s) : c 4 = nI (nS s) := by rw [h.s, ← hW.s]
/-! the recursions, step by step -/
theorem depF_eq {s : Row} (hW : WF s) : ∀ (f g e : Nat), e < nE s → e ≤ f → e ≤ g → depF s f e = depF s g e := by
  intro f
  induction f with
  | zero =>
    intro g e _ hf _
    have e0 : e = 0 := by omega
    subst e0
    cases g <;> simp [depF]
  | succ f ih =>
    intro g e hn hf hg
    by_cases e0 : e = 0
    · subst e0
      cases g <;> simp [depF]
    · have hp := hW.pl (Nat.pos_of_ne_zero e0) hn
      cases g with
      | zero => omega
      | succ g => simp only [depF, if_neg e0]; rw [ih g _ (by omega) (by omega) (by omega)]
theorem dep_0 (s : Row) : dep s 0 = 1 := rfl
theorem dep_s {s : Row} (hW : WF s) {e : Nat} (h0 : 0 < e) (he : e < nE s) : dep s e = dep s (pa s e) + 1 := by
  have hp := hW.pl h0 he
  unfold dep
  obtain ⟨k, rfl⟩ : ∃ k, e = k + 1 := ⟨e - 1, by omega⟩
  rw [depF, if_neg (by omega), depF_eq hW k (pa s (k + 1)) _ (by omega) (by omega) (Nat.le_refl _)]
theorem dep_le {s : Row} (hW : WF s) : ∀ (e : Nat), e < nE s → dep s e ≤ e + 1 := by
  intro e
  induction e using Nat.strongRecOn with
  | ind e ih =>
    intro he
    by_cases e0 : e = 0
    · subst e0; rw [dep_0]; exact Nat.le_refl 1
    · have hp := hW.pl (Nat.pos_of_ne_zero e0) he
      rw [dep_s hW (Nat.pos_of_ne_zero e0) he]
      have := ih (pa s e) hp (by omega)
      omega
theorem dep_pos {s : Row} : ∀ (f e : Nat), 1 ≤ depF s f e := by
  intro f
  induction f with
  | zero => intro e; simp [depF]
  | succ f ih => intro e; rw [depF]; split <;> omega
theorem onPF_eq {s : Row} (hW : WF s) : ∀ (f g x e : Nat), e < nE s → e ≤ f → e ≤ g → onPF s f x e = onPF s g x e := by
  intro f
  induction f with
  | zero =>
    intro g x e _ hf _
    have e0 : e = 0 := by omega
    subst e0
    cases g <;> simp [onPF]
  | succ f ih =>
    intro g x e hn hf hg
    by_cases e0 : e ≤ x
    · cases g with
      | zero => simp [onPF, e0]
      | succ g => simp [onPF, e0]
    · have hp := hW.pl (by omega) hn
      cases g with
      | zero => omega
      | succ g => simp only [onPF, if_neg e0]; rw [ih g _ _ (by omega) (by omega) (by omega)]
theorem onP_le {s : Row} {x e : Nat} (h : e ≤ x) : onP s x e = decide (x = e) := by
  unfold onP
  cases e with
  | zero => rfl
  | succ k => rw [onPF, if_pos h]
theorem onP_s {s : Row} (hW : WF s) {x e : Nat} (h : x < e) (he : e < nE s) : onP s x e = onP s x (pa s e) := by
  have hp := hW.pl (by omega) he
  unfold onP
  obtain ⟨k, rfl⟩ : ∃ k, e = k + 1 := ⟨e - 1, by omega⟩
  rw [onPF, if_neg (by omega), onPF_eq hW k (pa s (k + 1)) _ _ (by omega) (by omega) (Nat.le_refl _)]
theorem onP_self (s : Row) (e : Nat) : onP s e e = true := by rw [onP_le (Nat.le_refl _)]; simp
theorem balF_eq {s : Row} (hW : WF s) : ∀ (f g e a : Nat), e < nE s → e ≤ f → e ≤ g → balF s f e a = balF s g e a := by
  intro f
  induction f with
  | zero =>
    intro g e a _ hf _
    have e0 : e = 0 := by omega
    subst e0
    cases g <;> simp [balF]
  | succ f ih =>
    intro g e a hn hf hg
    by_cases e0 : e = 0
    · subst e0
      cases g <;> simp [balF]
    · have hp := hW.pl (Nat.pos_of_ne_zero e0) hn
      cases g with
      | zero => omega
      | succ g => simp only [balF, if_neg e0]; rw [ih g _ _ (by omega) (by omega) (by omega)]
theorem bal_0 (s : Row) (a : Nat) : bal s 0 a = 0 := rfl
theorem bal_s {s : Row} (hW : WF s) {e : Nat} (h0 : 0 < e) (he : e < nE s) (a : Nat) : bal s e a = bal s (pa s e) a + ctr s e a := by
  have hp := hW.pl h0 he
  unfold bal
  obtain ⟨k, rfl⟩ : ∃ k, e = k + 1 := ⟨e - 1, by omega⟩
  rw [balF, if_neg (by omega), balF_eq hW k (pa s (k + 1)) _ _ (by omega) (by omega) (Nat.le_refl _)]
theorem onP_0 {s : Row} (hW : WF s) : ∀ (y : Nat), y < nE s → onP s 0 y = true := by
  intro y
  induction y using Nat.strongRecOn with
  | ind y ih =>
    intro hy
    by_cases y0 : y = 0
    · subst y0; exact onP_self s 0
    · rw [onP_s hW (by omega) hy]
      have hp := hW.pl (Nat.pos_of_ne_zero y0) hy
      exact ih _ hp (by omega)
theorem meetF_eq {s : Row} (hW : WF s) : ∀ (f g x y : Nat), x < nE s → y < nE s → x ≤ f → x ≤ g → meetF s f x y = meetF s g x y := by
  intro f
  induction f with
  | zero =>
    intro g x y _ hy hf _
    have e0 : x = 0 := by omega
    subst e0
    cases g with
    | zero => rfl
    | succ g => simp [meetF, onP_0 hW y hy]
  | succ f ih =>
    intro g x y hx hy hf hg
    by_cases hc : onP s x y = true
    · cases g with
      | zero => simp [meetF, hc]
      | succ g => simp [meetF, hc]
    · have h0 : x ≠ 0 := fun z => hc (by rw [z]; exact onP_0 hW y hy)
      have hp := hW.pl (Nat.pos_of_ne_zero h0) hx
      cases g with
      | zero => omega
      | succ g => simp only [meetF, if_neg hc]; rw [ih g _ _ (by omega) hy (by omega) (by omega)]
theorem meet_t {s : Row} {x y : Nat} (h : onP s x y = true) : meet s x y = x := by
  unfold meet
  cases x with
  | zero => rfl
  | succ k => rw [meetF, if_pos h]
theorem meet_s {s : Row} (hW : WF s) {x y : Nat} (h : onP s x y = false) (hx : x < nE s) (hy : y < nE s) : meet s x y = meet s (pa s x) y := by
  have h0 : x ≠ 0 := fun z => by rw [z, onP_0 hW y hy] at h; cases h
  have hp := hW.pl (Nat.pos_of_ne_zero h0) hx
  unfold meet
  obtain ⟨k, rfl⟩ : ∃ k, x = k + 1 := ⟨x - 1, by omega⟩
  rw [meetF, if_neg (by rw [h]; decide), meetF_eq hW k (pa s (k + 1)) _ _ (by omega) hy (by omega) (Nat.le_refl _)]
theorem onP_lt {s : Row} {x e : Nat} (h : e < x) : onP s x e = false := by
  rw [onP_le (Nat.le_of_lt h)]; simp; omega
theorem XR.A1 {s c : Row} (h : XR s c) (hW : WF s) {e : Nat} (he : e < nE s) : c (5 + e * 7 + 1) = nI (a1 s e) := by
  rw [h.xa1 (Nat.lt_of_lt_of_le he hW.n60)]; exact (hW.e he).2.1
theorem XR.A2 {s c : Row} (h : XR s c) (hW : WF s) {e : Nat} (he : e < nE s) : c (5 + e * 7 + 2) = nI (a2 s e) := by
  rw [h.xa2 (Nat.lt_of_lt_of_le he hW.n60)]; exact (hW.e he).2.2.2.1
theorem WF.a1l {s : Row} (hW : WF s) {e : Nat} (he : e < nE s) : a1 s e < 6 := (hW.e he).2.2.1
theorem WF.a2l {s : Row} (hW : WF s) {e : Nat} (he : e < nE s) : a2 s e < 6 := (hW.e he).2.2.2.2.1
theorem WF.am0 {s : Row} (hW : WF s) {e : Nat} (he : e < nE s) : 0 ≤ am s e := (hW.e he).2.2.2.2.2.1
theorem WF.am9 {s : Row} (hW : WF s) {e : Nat} (he : e < nE s) : am s e ≤ 999 := (hW.e he).2.2.2.2.2.2.1
theorem WF.a12 {s : Row} (hW : WF s) {e : Nat} (he : e < nE s) (h : tk s e = true) : a1 s e ≠ a2 s e := (hW.e he).2.2.2.2.2.2.2 h
theorem XR.LF {s c : Row} (h : XR s c) (hW : WF s) {b : Nat} (hb : b < nB s) : c (425 + b * 5 + 0) = nI (lf s b) := by
  rw [h.xlf (Nat.lt_of_lt_of_le hb hW.b10)]; exact (hW.br hb).1
theorem XR.MN {s c : Row} (h : XR s c) (hW : WF s) {b : Nat} (hb : b < nB s) : c (425 + b * 5 + 1) = nI (mn s b) := by
  rw [h.xmn (Nat.lt_of_lt_of_le hb hW.b10)]; exact (hW.br hb).2.2.1
theorem WF.lfl {s : Row} (hW : WF s) {b : Nat} (hb : b < nB s) : lf s b < nE s := (hW.br hb).2.1
theorem WF.mn1 {s : Row} (hW : WF s) {b : Nat} (hb : b < nB s) : 1 ≤ mn s b := (hW.br hb).2.2.2.1
theorem WF.mnd {s : Row} (hW : WF s) {b : Nat} (hb : b < nB s) : mn s b < dep s (lf s b) := (hW.br hb).2.2.2.2
theorem WF.mn60 {s : Row} (hW : WF s) {b : Nat} (hb : b < nB s) : mn s b < 60 := by
  have h1 := hW.mnd hb
  have h2 := dep_le hW _ (hW.lfl hb)
  have h3 := hW.lfl hb
  have h4 := hW.n60
  omega
theorem XR.SE {s c : Row} (h : XR s c) (hW : WF s) {k : Nat} (hk : k < nS s) : c (475 + k * 2 + 0) = nI (sE s k) := by
  rw [h.se (Nat.lt_of_lt_of_le hk hW.s8)]; exact (hW.se hk).1
theorem WF.sEl {s : Row} (hW : WF s) {k : Nat} (hk : k < nS s) : sE s k < nE s := (hW.se hk).2
theorem XR.Fit {s c : Row} (h : XR s c) (hW : WF s) {e : Nat} (he : e < nE s) : xfit c e (pa s e) = fit s e := by
  have hn := hW.n60
  unfold xfit fit
  by_cases e0 : e = 0
  · rw [if_pos e0, if_pos e0]
  · have hp := hW.pl (Nat.pos_of_ne_zero e0) he
    rw [if_neg e0, if_neg e0, h.l (by omega), h.xkd (by omega), h.xa1 (by omega), h.xa2 (by omega), h.xam (by omega)]
theorem onP_upr {s : Row} (hW : WF s) {x y : Nat} (h : x < y) (hy : y < nE s) : onP s x y = onP s x (pa s y) := onP_s hW h hy
/-- where the second entry is the later one, it may go up -/
theorem meet_r {s : Row} (hW : WF s) : ∀ {x y : Nat}, x < nE s → y < nE s → x < y → meet s x y = meet s x (pa s y) := by
  intro x
  induction x using Nat.strongRecOn with
  | ind x ih =>
    intro y hx hy hxy
    have hp := hW.pl (e := y) (by omega) hy
    have e1 := onP_s hW hxy hy
    by_cases hc : onP s x y = true
    · rw [meet_t hc, meet_t (by rw [← e1]; exact hc)]
    · have hc : onP s x y = false := by cases h : onP s x y <;> simp_all
      have hc2 : onP s x (pa s y) = false := by rw [← e1]; exact hc
      have h0 : x ≠ 0 := fun z => by rw [z, onP_0 hW y hy] at hc; cases hc
      have hpx := hW.pl (Nat.pos_of_ne_zero h0) hx
      rw [meet_s hW hc hx hy, meet_s hW hc2 hx (by omega)]
      exact ih _ hpx (by omega) hy (by omega)
