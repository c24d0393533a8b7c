/-! what the looking methods answer, as the law adds it up -/
theorem ct_ {s : Row} {st tl k : Nat} (hk : k < 15) : ctR s st tl (nI k) = ctN s st tl k := by rw [ctR, if_pos (hasN_n hk (by omega)), cl_n (by omega)]
theorem et_ {s : Row} {e w : Nat} (he : e < nE s) (h60 : nE s ≤ 60) (hw : w < 11) : etR s (nI e) (nI w) = etN s e w := by rw [etR, if_pos ⟨hasN_n he (by omega), hasN_n hw (by omega)⟩, cl_n (by omega), cl_n (by omega)]
theorem br_ {s : Row} {b w : Nat} (hb : b < nB s) (h10 : nB s ≤ 10) (hw : w < 6) : brR s (nI b) (nI w) = brN s b w := by rw [brR, if_pos ⟨hasN_n hb (by omega), hasN_n hw (by omega)⟩, cl_n (by omega), cl_n (by omega)]
theorem sd_ {s : Row} {k w : Nat} (hk : k < nS s) (h8 : nS s ≤ 8) (hw : w < 3) : sdR s (nI k) (nI w) = sdN s k w := by rw [sdR, if_pos ⟨hasN_n hk (by omega), hasN_n hw (by omega)⟩, cl_n (by omega), cl_n (by omega)]
theorem cm_ {s : Row} {x y : Nat} (hx : x < nE s) (hy : y < nE s) (h60 : nE s ≤ 60) : cmR s (nI x) (nI y) = nI (meet s x y) := by rw [cmR, if_pos ⟨hasN_n hx (by omega), hasN_n hy (by omega)⟩, cl_n (by omega), cl_n (by omega)]
theorem ba_ {s : Row} {a e : Nat} (ha : a < 6) (he : e < nE s) (h60 : nE s ≤ 60) : baR s (nI a) (nI e) = iI (bal s e a) := by rw [baR, if_pos ⟨in_ok (by omega) (by omega), hasN_n he (by omega)⟩, cl_n (by omega), cl_n (by omega)]
theorem oc_ {s : Row} {k : Nat} (hk : k < dep s (hE s)) (hd : dep s (hE s) ≤ 60) : ocR s (nI k) = nI (cE s k) := by
  rw [ocR, if_neg (by rw [nI_tI (by omega)]; omega), if_pos (hasN_n hk (by omega)), cl_n (by omega)]
theorem oc_out {s : Row} (hd : dep s (hE s) ≤ 60) : ocR s (nI (dep s (hE s))) = -100009 := by
  rw [ocR, if_neg (by rw [nI_tI (by omega)]; omega), if_neg (fun z => by
    obtain ⟨k, h1, h2⟩ := hasN_t z
    have q := congrArg Int32.toInt h2
    rw [nI_tI (by omega), nI_tI (by omega)] at q
    omega)]
theorem cE_last (s : Row) : cE s (dep s (hE s) - 1) = hE s := by
  unfold cE
  rw [Nat.sub_self]
  rfl
theorem bI_nat (b : Bool) : bI b = nI (if b = true then 1 else 0) := by cases b <;> rfl
theorem bI_and1 (b : Bool) : bI b &&& nI 1 = bI (b && true) := by cases b <;> rfl
theorem bI_and0 (b : Bool) : bI b &&& nI 0 = bI (b && false) := by cases b <;> rfl
/-- none of the entries behind e and below k has e as its parent -/
def lfp (s : Row) (e k : Nat) : Bool := allF (fun x => !decide (pa s x = e)) (e + 1) (k - (e + 1))
theorem allF_snoc {f : Nat → Bool} : ∀ (r i : Nat), allF f i (r + 1) = (allF f i r && f (i + r)) := by
  intro r
  induction r with
  | zero => intro i; simp [allF]
  | succ r ih =>
    intro i
    rw [allF, ih (i + 1), allF, Bool.and_assoc, show i + 1 + r = i + (r + 1) by omega]
theorem lfp_0 (s : Row) (e : Nat) : lfp s e (e + 1) = true := by unfold lfp; rw [Nat.sub_self]; rfl
theorem lfp_s {s : Row} {e k : Nat} (h : e + 1 ≤ k) : lfp s e (k + 1) = (lfp s e k && !decide (pa s k = e)) := by
  unfold lfp
  rw [show k + 1 - (e + 1) = (k - (e + 1)) + 1 by omega, allF_snoc, show e + 1 + (k - (e + 1)) = k by omega]
theorem lfp_y {s : Row} {e k : Nat} (h : e + 1 ≤ k) (hp : pa s k = e) : bI (lfp s e k) &&& nI 0 = bI (lfp s e (k + 1)) := by
  rw [bI_and0, lfp_s h, decide_eq_true hp]; rfl
theorem lfp_n {s : Row} {e k : Nat} (h : e + 1 ≤ k) (hp : pa s k ≠ e) : bI (lfp s e k) &&& nI 1 = bI (lfp s e (k + 1)) := by
  rw [bI_and1, lfp_s h, decide_eq_false hp]; rfl
theorem lfp_leaf (s : Row) (e : Nat) : lfp s e (nE s) = leafB s e := rfl
theorem cntF_cong {f g : Nat → Bool} : ∀ {n : Nat}, (∀ k, k < n → f k = g k) → cntF f n = cntF g n := by
  intro n
  induction n with
  | zero => intro _; rfl
  | succ n ih => intro h; rw [cntF, cntF, ih (fun k hk => h k (by omega)), h n (by omega)]
theorem on_cntG {s : Row} (hW : WF s) : ∀ (e : Nat), e < nE s → ∀ n, e < n → cntF (fun k => onP s k e) n = dep s e := by
  intro e
  induction e using Nat.strongRecOn with
  | ind e ih =>
    intro he n
    induction n with
    | zero => intro h; omega
    | succ m im =>
      intro hm
      rw [cntF]
      by_cases hme : m = e
      · subst hme
        rw [if_pos (onP_self s m)]
        by_cases e0 : m = 0
        · subst e0; rfl
        · have hp := hW.pl (Nat.pos_of_ne_zero e0) he
          rw [cntF_cong (g := fun k => onP s k (pa s m)) (fun k hk => onP_s hW hk he), ih _ hp (by omega) m hp, dep_s hW (Nat.pos_of_ne_zero e0) he]
      · rw [im (by omega), if_neg (by rw [onP_lt (by omega)]; decide)]; rfl
theorem on_cnt {s : Row} (hW : WF s) : cntF (fun k => onP s k (hE s)) (nE s) = dep s (hE s) := on_cntG hW _ hW.hn _ hW.hn
theorem cnt_s_t {f : Nat → Bool} {n : Nat} (h : f n = true) : nI (cntF f n + 1) = nI (cntF f (n + 1)) := by rw [cntF, if_pos h]
theorem cnt_s_f {f : Nat → Bool} {n : Nat} (h : f n = false) : nI (cntF f n + 0) = nI (cntF f (n + 1)) := by rw [cntF, if_neg (by rw [h]; decide)]
theorem cnt_s_n {f : Nat → Bool} {n : Nat} : nI (cntF (fun k => !f k) n + (1 - (if f n = true then 1 else 0))) = nI (cntF (fun k => !f k) (n + 1)) := by
  rw [cntF]
  cases f n <;> rfl
theorem fst_iff {f : Nat → Bool} : ∀ (r i : Nat), i + r < 2147483648 → (fstF f i r = -100009 ↔ ∀ k, i ≤ k → k < i + r → f k = false) := by
  intro r
  induction r with
  | zero => intro i _; exact ⟨fun _ k h1 h2 => by omega, fun _ => rfl⟩
  | succ r ih =>
    intro i hb
    rw [fstF]
    cases hc : f i with
    | true =>
      rw [if_pos rfl]
      constructor
      · intro h
        have q := congrArg Int32.toInt h
        rw [nI_tI (by omega), show ((-100009 : Int32).toInt) = -100009 by decide] at q
        omega
      · intro h
        have q := h i (by omega) (by omega)
        rw [hc] at q; cases q
    | false =>
      rw [if_neg (by decide), ih (i + 1) (by omega)]
      constructor
      · intro h k h1 h2
        by_cases e : k = i
        · rw [e]; exact hc
        · exact h k (by omega) (by omega)
      · intro h k h1 h2
        exact h k (by omega) (by omega)
theorem fst_cnt {f : Nat → Bool} {n : Nat} (hn : n ≤ 60) : (fstF f 0 n).toInt = -100009 ↔ cntF f n = 0 := by
  have key := fst_iff (f := f) n 0 (by omega)
  constructor
  · intro h
    have q : fstF f 0 n = -100009 := i32_eq (by rw [h]; decide)
    exact cntF_0 (fun k hk => key.mp q k (by omega) (by omega))
  · intro h
    rw [key.mpr (fun k _ hk => cntF_z h k (by omega))]; decide
/-! sums of all balances -/
def sumV (v : Nat → Int) : Nat → Int
  | 0 => 0
  | n + 1 => sumV v n + v n
def sumB (s : Row) (e : Nat) : Int := sumV (bal s e) 6
theorem totI_sum (v : Nat → Int) : ∀ n, totI v n = iI (sumV v n) := by
  intro n
  induction n with
  | zero => exact nI_iI 0
  | succ n ih => rw [totI, sumV, ih, iI_add]
theorem sumV_add (f g : Nat → Int) : ∀ n, sumV (fun a => f a + g a) n = sumV f n + sumV g n := by
  intro n
  induction n with
  | zero => rfl
  | succ n ih => rw [sumV, sumV, sumV, ih]; omega
theorem sumV_sub (f g : Nat → Int) : ∀ n, sumV (fun a => f a - g a) n = sumV f n - sumV g n := by
  intro n
  induction n with
  | zero => rfl
  | succ n ih => rw [sumV, sumV, sumV, ih]; omega
theorem sumV_at (B : Bool) (y : Nat) (m : Int) : ∀ n, sumV (fun a => if B = true ∧ a = y then m else 0) n = if B = true ∧ y < n then m else 0 := by
  intro n
  induction n with
  | zero => rw [sumV, if_neg (by omega)]
  | succ n ih =>
    rw [sumV, ih]
    cases B with
    | false => rfl
    | true =>
      by_cases q : n = y
      · rw [if_neg (by omega), if_pos ⟨rfl, q⟩, if_pos ⟨rfl, by omega⟩]; omega
      · by_cases q2 : y < n
        · rw [if_pos ⟨rfl, q2⟩, if_neg (fun z => q z.2), if_pos ⟨rfl, by omega⟩]; omega
        · rw [if_neg (fun z => q2 z.2), if_neg (fun z => q z.2), if_neg (fun z => by omega)]; rfl
theorem sumB_0 (s : Row) : sumB s 0 = 0 := rfl
theorem sumB_s {s : Row} (hW : WF s) {e : Nat} (h0 : 0 < e) (he : e < nE s) : sumB s e = sumB s (pa s e) + (if (me s e 1).toInt = 1 then (me s e 4).toInt else 0) := by
  have h1 := hW.a1l he
  have h2 := hW.a2l he
  have e1 : bal s e = fun a => bal s (pa s e) a + ctr s e a := by funext a; exact bal_s hW h0 he a
  have e2 : sumV (ctr s e) 6 = (if bg s e = true ∧ a2 s e < 6 then am s e else 0) - (if tk s e = true ∧ a1 s e < 6 then am s e else 0) := by
    rw [← sumV_at, ← sumV_at, ← sumV_sub]; rfl
  unfold sumB
  rw [e1, sumV_add, e2]
  congr 1
  show _ = if kd s e = 1 then am s e else 0
  unfold bg tk
  by_cases q1 : kd s e = 1
  · rw [if_pos q1, if_pos ⟨decide_eq_true (by omega), h2⟩, if_neg (fun z => by have := of_decide_eq_true z.1; omega)]
    omega
  · rw [if_neg q1]
    by_cases q2 : kd s e = 2 ∨ kd s e = 3
    · rw [if_pos ⟨decide_eq_true (by omega), h2⟩, if_pos ⟨decide_eq_true q2, h1⟩]
      omega
    · rw [if_neg (fun z => by have := of_decide_eq_true z.1; omega), if_neg (fun z => q2 (of_decide_eq_true z.1))]
      rfl
/-! paths -/
theorem onP_dep_up {s : Row} (hW : WF s) : ∀ (k e : Nat), e < nE s → k < dep s e → onP s (up s e k) e = true ∧ dep s (up s e k) + k = dep s e := by
  intro k
  induction k with
  | zero => intro e _ _; exact ⟨onP_self s e, rfl⟩
  | succ k ih =>
    intro e he hk
    by_cases e0 : e = 0
    · subst e0; rw [dep_0] at hk; omega
    · have hp := hW.pl (Nat.pos_of_ne_zero e0) he
      have hd := dep_s hW (Nat.pos_of_ne_zero e0) he
      obtain ⟨h1, h2⟩ := ih (pa s e) (by omega) (by omega)
      have h3 := (dep_on hW (by omega) h1).1
      rw [up]
      exact ⟨by rw [onP_s hW (by omega) he]; exact h1, by omega⟩
theorem br_first {s : Row} (hW : WF s) {b : Nat} (hb : b < nB s) : brE s b 0 < nE s ∧ onP s (brE s b 0) (lf s b) = true ∧ dep s (brE s b 0) + mn s b = dep s (lf s b) + 1 := by
  have h1 := hW.mn1 hb
  have h2 := hW.mnd hb
  have h3 := hW.lfl hb
  obtain ⟨g1, g2⟩ := onP_dep_up hW (mn s b - 1 - 0) (lf s b) h3 (by omega)
  exact ⟨brE_in hW hb (by omega), g1, by unfold brE; omega⟩
theorem meet_on {s : Row} (hW : WF s) : ∀ {x y : Nat}, x < nE s → y < nE s → meet s x y ≤ x ∧ onP s (meet s x y) y = true := by
  intro x
  induction x using Nat.strongRecOn with
  | ind x ih =>
    intro y hx hy
    by_cases hc : onP s x y = true
    · rw [meet_t hc]; exact ⟨Nat.le_refl _, hc⟩
    · have hc : onP s x y = false := by cases h : onP s x y <;> simp_all
      have h0 : x ≠ 0 := fun z => by rw [z, onP_0 hW y hy] at hc; cases hc
      have hp := hW.pl (Nat.pos_of_ne_zero h0) hx
      rw [meet_s hW hc hx hy]
      obtain ⟨g1, g2⟩ := ih _ hp (y := y) (by omega) hy
      exact ⟨by omega, g2⟩
theorem loud_t {s : Row} {b : Nat} (h : loudB s b = true) : waitB s b = true ∧ (s 3).toInt ≤ (mb s b 2).toInt := by
  unfold loudB at h
  rw [Bool.and_eq_true] at h
  exact ⟨h.1, of_decide_eq_true h.2⟩
theorem loud_f {s : Row} {b : Nat} (h : ¬ loudB s b = true) (hw : waitB s b = true) : (mb s b 2).toInt < (s 3).toInt := by
  unfold loudB at h
  rw [hw, Bool.true_and, decide_eq_true_eq] at h
  omega
theorem wait_0 {s : Row} {b : Nat} (h : waitB s b = true) : mb s b 3 = nI 0 := of_decide_eq_true h
theorem wait_st {s : Row} (hX : EX s) {b : Nat} (hb : b < nB s) (h : ¬ waitB s b = true) (h2 : ¬ mb s b 3 = nI 2) : mb s b 3 = nI 3 := by
  rcases hX.2.2.2.2 b hb with q | q | q
  · exact absurd (decide_eq_true q) h
  · exact absurd q h2
  · exact q
theorem brN_l {s : Row} {b : Nat} (h : loudB s b = true) : brN s b 4 = nI 1 := by rw [brN, if_pos h]
theorem brN_n {s : Row} {b : Nat} (h : ¬ loudB s b = true) : brN s b 4 = mb s b 3 := by rw [brN, if_neg h]
theorem no_loud {s : Row} {b : Nat} (hb : b < nB s) (h : cntF (loudB s) (nB s) = 0) : ¬ loudB s b = true := fun z => by
  rw [cntF_z h b hb] at z; cases z
theorem not_t {b : Bool} (h : ¬ b = true) : b = false := by cases b with
  | false => rfl
  | true => exact absurd rfl h
/-! numbers of the script -/
theorem and31x (x : Int32) : ∃ y : Nat, y < 2147483648 ∧ x &&& 2147483647 = nI y := by
  have h1 : (x &&& 2147483647).toBitVec = x.toBitVec &&& 2147483647#32 := rfl
  have h2 : (x &&& 2147483647).toBitVec.toNat < 2147483648 := by
    rw [h1, BitVec.toNat_and]
    exact Nat.lt_of_le_of_lt Nat.and_le_right (by decide)
  refine ⟨(x &&& 2147483647).toBitVec.toNat, h2, ?_⟩
  apply Int32.toBitVec_inj.mp
  apply BitVec.eq_of_toNat_eq
  generalize (x &&& 2147483647).toBitVec.toNat = k at h2 ⊢
  show k = (BitVec.ofNat 32 k).toNat
  rw [BitVec.toNat_ofNat]
  omega
