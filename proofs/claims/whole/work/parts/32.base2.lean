section RW2
variable {p : Program} {l : Launch} {e : Env} {R : Room} {s : State} {m : MethodId} {args : Array Value} {below : List Frame} {meth : Method} {c : Code} {H : Heap} {locs : List Loc} {cells slots : Nat} {Q : State → Prop}
variable {cc : ByteArray} {pc : Nat} {ls : Array Slot} {rest st0 : List Value} {D : va_G} {q : ClassId × ClassId} {A : Nat → Prop} {ws : va_W} {H0 : Heap}
theorem r_cast_n {ar : Nat} (hx : p.tables.exec = Jvm.exec) (hb : c.code = cc) (hK : va_K D vwCl (TY q) s) (hP : va_P D vwCl ws H) (hD : va_D A ws) (hS : va_S A H0 H locs) (q0 : Nat) {n : Nat} {f : Row} (ha : ws[q0]? = some (ar, .inl (q.2, n, .inl f))) {k v : Nat} (hv : v < 65536) (hk : k < n) (hn : n < 2147483648) (hdg : decode cc pc = .ok (.castore, 1))
    (kk : ∀ (H1 : Heap) (locs1 : List Loc), va_P D vwCl (ws.set q0 (ar, .inl (q.2, n, .inl (upd f k (nI v))))) H1 → va_D A (ws.set q0 (ar, .inl (q.2, n, .inl (upd f k (nI v))))) → va_S A H0 H1 locs1 → W p l e R s m args below meth c H1 locs1 cells slots Q (F0 m (pc + 1) ls rest)) : W p l e R s m args below meth c H locs cells slots Q (F0 m pc ls (.int (nI v) :: .int (nI k) :: .ref ar :: rest)) := by
  have hc : vp_nar .char (nI v) = nI v := by
    unfold vp_nar
    rw [(pk_charN hv).1]
  refine va_cast hx hb hK hP hD hS q0 1 ha rfl (vp_in_nI hk hn) hdg ?_
  rw [nI_clamp (Nat.lt_trans hk hn), hc]
  exact kk
end RW2
/-! the law's own side: what its actions make of its rows -/
def shiftW (was : Row) (i : Nat) : Row := fun j => if j < i then was (j + 1445) else was j
theorem shiftW_0 (was : Row) : shiftW was 0 = was := by funext j; exact if_neg (Nat.not_lt_zero j)
theorem shiftW_s (was : Row) (i : Nat) : upd (shiftW was i) i (shiftW was i (i + 1445)) = shiftW was (i + 1) := by
  funext j
  by_cases e : j = i
  · rw [e, pk_us]
    show (if i + 1445 < i then was (i + 1445 + 1445) else was (i + 1445)) = (if i < i + 1 then was (i + 1445) else was i)
    rw [if_neg (by omega), if_pos (by omega)]
  · rw [pk_un e]
    show (if j < i then was (j + 1445) else was j) = (if j < i + 1 then was (j + 1445) else was j)
    by_cases h : j < i
    · rw [if_pos h, if_pos (by omega)]
    · rw [if_neg h, if_neg (by omega)]
theorem cpy_0 (f g : Row) (a b : Nat) : va_cpy f g a b 0 = g := by funext k; exact pk_cpy_out (by omega)
theorem cpy_s (f g : Row) (a b i : Nat) : upd (va_cpy f g a b i) (b + i) (f (a + i)) = va_cpy f g a b (i + 1) := by
  funext k
  by_cases e : k = b + i
  · rw [e, pk_us, pk_cpy_in (by omega) (by omega)]
    congr 1; omega
  · rw [pk_un e]
    by_cases h : b ≤ k ∧ k < b + i
    · rw [pk_cpy_in h.1 h.2, pk_cpy_in h.1 (by omega)]
    · rw [pk_cpy_out (by omega), pk_cpy_out (by omega)]
def recW (was s : Row) (st : Nat) : Row := if st = 5 then va_cpy s (shiftW was 5780) 0 (1445 * (5 - 1)) 1445 else va_cpy s was 0 (1445 * st) 1445
def MACT (s was : Row) (st : Nat) (ok : Bool) (S s' was' : Row) (st' : Nat) : Prop :=
  if ok = true then s' = S ∧ was' = recW was s st ∧ st' = recN st else s' = s ∧ was' = was ∧ st' = st
theorem MACT.no {s was S : Row} {st : Nat} {ok : Bool} (h : ok = false) : MACT s was st ok S s was st := by
  unfold MACT; rw [h]; exact ⟨rfl, rfl, rfl⟩
theorem MACT.yes {s was S s' : Row} {st : Nat} {ok : Bool} (h : ok = true) (hS : s' = S) : MACT s was st ok S s' (recW was s st) (recN st) := by
  unfold MACT; rw [h]; exact ⟨hS, rfl, rfl⟩
def mfit (s : Row) (e p : Nat) : Int32 := if e = 0 then 1 else fitX (me s p 5) (me s e 1) (me s e 2) (me s e 3) (me s e 4) e
theorem mfit_eq (s : Row) (e : Nat) : mfit s e (pa s e) = fit s e := rfl
def subV (s : Row) (v : Nat → Int) (e : Nat) : Nat → Int := fun a => v a - ctr s e a
def lowV (v : Nat → Int) : Bool := !allF (fun a => decide (0 ≤ v a)) 0 6
theorem pleadF_no {s : Row} {b : Nat} (h : waitB s b = false) : upd (pleadF s b) (425 + 4 * b + 2) (mb s b 2 + nI 0) = pleadF s (b + 1) := by
  rw [pleadF, if_neg (by rw [h]; decide)]
  funext i
  by_cases e : i = 425 + 4 * b + 2
  · rw [e, pk_us, pleadF_pl, if_neg (by omega)]
    exact Int32.add_zero _
  · rw [pk_un e]
theorem pleadF_yes {s : Row} {b : Nat} (h : waitB s b = true) : upd (pleadF s b) (425 + 4 * b + 2) (mb s b 2 + nI 1) = pleadF s (b + 1) := by
  rw [pleadF, if_pos h]
/-- sums behind counting an entry, with the sign 1 or -1 -/
theorem cnt_case {s f : Row} {v : Nat → Int} {e : Nat} (hV : SV f v) (g : Row) (w : Nat → Int) (sg : Int)
    (h1 : ∀ a, a < 6 → g a = if bg s e = true ∧ a = a2 s e then iI (v a - (if tk s e = true ∧ a = a1 s e then sg * am s e else 0) + sg * am s e) else if tk s e = true ∧ a = a1 s e then iI (v a - sg * am s e) else f a)
    (hw : ∀ a, w a = v a + ((if bg s e = true ∧ a = a2 s e then sg * am s e else 0) - (if tk s e = true ∧ a = a1 s e then sg * am s e else 0))) : SV g w := by
  intro a ha
  rw [h1 a ha, hw a]
  by_cases c1 : bg s e = true ∧ a = a2 s e
  · rw [if_pos c1, if_pos c1]
    congr 1
    omega
  · rw [if_neg c1, if_neg c1]
    by_cases c2 : tk s e = true ∧ a = a1 s e
    · rw [if_pos c2, if_pos c2]; congr 1; omega
    · rw [if_neg c2, if_neg c2, hV a ha]; congr 1; omega
theorem addV_hw (s : Row) (v : Nat → Int) (e : Nat) : ∀ a, addV s v e a = v a + ((if bg s e = true ∧ a = a2 s e then 1 * am s e else 0) - (if tk s e = true ∧ a = a1 s e then 1 * am s e else 0)) := by
  intro a; rw [Int.one_mul]; rfl
theorem subV_hw (s : Row) (v : Nat → Int) (e : Nat) : ∀ a, subV s v e a = v a + ((if bg s e = true ∧ a = a2 s e then (-1) * am s e else 0) - (if tk s e = true ∧ a = a1 s e then (-1) * am s e else 0)) := by
  intro a
  unfold subV ctr
  split <;> split <;> omega
theorem low_aff {s : Row} (hW : WF s) {v : Nat → Int} {e : Nat} (he : e < nE s) {N : Int} (hB : BV v N) : lowV (addV s v e) = !aff s v e := by
  have h0 := hW.am0 he
  have h1l := hW.a1l he
  have h12 := fun h => hW.a12 he h
  have key : allF (fun a => decide (0 ≤ addV s v e a)) 0 6 = true ↔ aff s v e = true := by
    rw [allF_iff]
    constructor
    · intro h
      unfold aff
      cases ht : tk s e with
      | false => rfl
      | true =>
        have h2 := of_decide_eq_true (h (a1 s e) (by omega) (by omega))
        unfold addV ctr at h2
        have e4 : (if bg s e = true ∧ a1 s e = a2 s e then am s e else 0) = 0 := if_neg (fun z => h12 ht z.2)
        rw [ht, e4, if_pos ⟨rfl, rfl⟩] at h2
        simp only [Bool.not_true, Bool.false_or]
        exact decide_eq_true (by omega)
    · intro h k _ hk
      have hb := hB k (by omega)
      refine decide_eq_true ?_
      unfold addV ctr
      unfold aff at h
      cases ht : tk s e with
      | false =>
        have e4 : (if false = true ∧ k = a1 s e then am s e else 0) = 0 := if_neg (fun z => by cases z.1)
        rw [e4]
        split <;> omega
      | true =>
        rw [ht] at h
        simp only [Bool.not_true, Bool.false_or] at h
        have h := of_decide_eq_true h
        by_cases c2 : k = a1 s e
        · rw [c2] at hb ⊢
          have e4 : (if true = true ∧ a1 s e = a1 s e then am s e else 0) = am s e := if_pos ⟨rfl, rfl⟩
          rw [e4]
          split <;> omega
        · have e4 : (if true = true ∧ k = a1 s e then am s e else 0) = 0 := if_neg (fun z => c2 z.2)
          rw [e4]
          split <;> omega
  unfold lowV
  congr 1
  cases h1 : allF (fun a => decide (0 ≤ addV s v e a)) 0 6 with
  | true => rw [key.mp h1]
  | false =>
    cases h2 : aff s v e with
    | false => rfl
    | true => rw [key.mpr h2] at h1; cases h1
theorem trN_cnt (s : Row) (v : Nat → Int) (E : Nat → Nat) : ∀ n, trN s v E n = cntF (fun j => aff s (trV s v E j) (E j)) n := by
  intro n
  induction n with
  | zero => rfl
  | succ n ih => rw [trN, cntF, ih]
/-- the k-th entry of a branch that does not fail -/
def okE (s : Row) (v : Nat → Int) (E : Nat → Nat) (n k : Nat) : Nat := E (nthF (fun j => aff s (trV s v E j) (E j)) n k)
theorem nthF_grow (f : Nat → Bool) {n k : Nat} (h : k < cntF f n) : nthF f (n + 1) k = nthF f n k := by
  rw [nthF, if_neg (fun z => by omega)]
/-! reading a number -/
def nmJ (T : Row) : Nat → Nat → Nat → Nat → Nat
  | 0, i, _, _ => i
  | r + 1, i, d, v => if nd (chr T i) d v = true then nmJ T r (i + 1) (d + 1) (v * 10 + (chr T i - 48)) else i
def nmV (T : Row) : Nat → Nat → Nat → Nat → Nat
  | 0, _, _, v => v
  | r + 1, i, d, v => if nd (chr T i) d v = true then nmV T r (i + 1) (d + 1) (v * 10 + (chr T i - 48)) else v
theorem nm_in (T : Row) : ∀ (r i d v : Nat), i ≤ nmJ T r i d v ∧ nmJ T r i d v ≤ i + r := by
  intro r
  induction r with
  | zero => intro i d v; rw [nmJ]; omega
  | succ r ih =>
    intro i d v
    rw [nmJ]
    split
    · have := ih (i + 1) (d + 1) (v * 10 + (chr T i - 48)); omega
    · omega
theorem nm_ok (T : Row) : ∀ (r i d v : Nat), vOK d v → vOK (d + (nmJ T r i d v - i)) (nmV T r i d v) := by
  intro r
  induction r with
  | zero => intro i d v h; rw [nmJ, nmV, Nat.sub_self]; exact h
  | succ r ih =>
    intro i d v h
    rw [nmJ, nmV]
    split
    · rename_i hc
      have h1 := ih (i + 1) (d + 1) (v * 10 + (chr T i - 48)) (vOK_s h hc)
      have h2 := (nm_in T r (i + 1) (d + 1) (v * 10 + (chr T i - 48))).1
      rw [show d + (nmJ T r (i + 1) (d + 1) (v * 10 + (chr T i - 48)) - i) = d + 1 + (nmJ T r (i + 1) (d + 1) (v * 10 + (chr T i - 48)) - (i + 1)) by omega]
      exact h1
    · rw [Nat.sub_self]; exact h
theorem nm_stop (T : Row) : ∀ (r i d v : Nat), nmJ T r i d v < i + r → nd (chr T (nmJ T r i d v)) (d + (nmJ T r i d v - i)) (nmV T r i d v) = false := by
  intro r
  induction r with
  | zero => intro i d v h; rw [nmJ] at h; omega
  | succ r ih =>
    intro i d v h
    rw [nmJ] at h
    rw [nmJ, nmV]
    by_cases hc : nd (chr T i) d v = true
    · rw [if_pos hc] at h
      rw [if_pos hc, if_pos hc]
      have h2 := (nm_in T r (i + 1) (d + 1) (v * 10 + (chr T i - 48))).1
      have h1 := ih (i + 1) (d + 1) (v * 10 + (chr T i - 48)) (by omega)
      rw [show d + (nmJ T r (i + 1) (d + 1) (v * 10 + (chr T i - 48)) - i) = d + 1 + (nmJ T r (i + 1) (d + 1) (v * 10 + (chr T i - 48)) - (i + 1)) by omega]
      exact h1
    · rw [if_neg hc, if_neg hc, Nat.sub_self, Nat.add_zero]
      cases e : nd (chr T i) d v with
      | false => rfl
      | true => exact absurd e hc
theorem nm_run (T : Row) : ∀ (r i d v k : Nat), prF T r i d v k = prF T (i + r - nmJ T r i d v) (nmJ T r i d v) (d + (nmJ T r i d v - i)) (nmV T r i d v) k ∧ prS T r i d v k = prS T (i + r - nmJ T r i d v) (nmJ T r i d v) (d + (nmJ T r i d v - i)) (nmV T r i d v) k ∧ ∀ x, prN T r i d v k x = prN T (i + r - nmJ T r i d v) (nmJ T r i d v) (d + (nmJ T r i d v - i)) (nmV T r i d v) k x := by
  intro r
  induction r with
  | zero => intro i d v k; rw [nmJ, nmV, Nat.sub_self, Nat.add_zero, Nat.add_zero, Nat.sub_self]; exact ⟨rfl, rfl, fun _ => rfl⟩
  | succ r ih =>
    intro i d v k
    by_cases hc : nd (chr T i) d v = true
    · have e1 : nmJ T (r + 1) i d v = nmJ T r (i + 1) (d + 1) (v * 10 + (chr T i - 48)) := by rw [nmJ, if_pos hc]
      have e2 : nmV T (r + 1) i d v = nmV T r (i + 1) (d + 1) (v * 10 + (chr T i - 48)) := by rw [nmV, if_pos hc]
      have h2 := (nm_in T r (i + 1) (d + 1) (v * 10 + (chr T i - 48))).1
      obtain ⟨a1, a2, a3⟩ := ih (i + 1) (d + 1) (v * 10 + (chr T i - 48)) k
      rw [show i + 1 + r = i + (r + 1) by omega, show d + 1 + (nmJ T r (i + 1) (d + 1) (v * 10 + (chr T i - 48)) - (i + 1)) = d + (nmJ T r (i + 1) (d + 1) (v * 10 + (chr T i - 48)) - i) by omega] at a1 a2 a3
      rw [e1, e2]
      refine ⟨by rw [prF, if_pos hc]; exact a1, by rw [prS, if_pos hc]; exact a2, fun x => by rw [prN, if_pos hc]; exact a3 x⟩
    · have e1 : nmJ T (r + 1) i d v = i := by rw [nmJ, if_neg hc]
      have e2 : nmV T (r + 1) i d v = v := by rw [nmV, if_neg hc]
      rw [e1, e2, Nat.sub_self, Nat.add_zero, show i + (r + 1) - i = r + 1 by omega]
      exact ⟨rfl, rfl, fun _ => rfl⟩
