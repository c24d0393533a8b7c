/-! what each call answers (R), whether it is recorded (O), the state behind it (S) -/
abbrev cl (x : Int32) : Nat := x.toNatClampNeg
def affB (s : Row) (k f a : Nat) : Bool := !decide (k = 2 ∨ k = 3) || decide ((a : Int) ≤ bal s (hE s) f)
def wrR (s : Row) (k f a : Nat) : Int32 := if 0 < cntF (loudB s) (nB s) ∨ affB s k f a = false then -100002 else if nE s = 60 then -100003 else nI (nE s)
def wrO (s : Row) (k f a : Nat) : Bool := decide (cntF (loudB s) (nB s) = 0) && affB s k f a && !decide (nE s = 60)
def wrS (s : Row) (k f t a : Nat) : Row := putE (plead s) (nI k) (nI f) (nI t) (nI a) (-100009)
def xwrS (s c : Row) (k f t a : Nat) : Row := xputE (plead s) (xpleadF s c (nB s)) (nI k) (nI f) (nI t) (nI a) (-100009)
def dpP (to am : Int32) : Bool := inR to (nI 0) (nI 5) && inR am (nI 1) (nI 999)
def dpR (s : Row) (to am : Int32) : Int32 := if dpP to am = true then wrR s 1 0 (cl am) else -100001
def dpO (s : Row) (to am : Int32) : Bool := dpP to am && wrO s 1 0 (cl am)
def dpS (s : Row) (to am : Int32) : Row := wrS s 1 0 (cl to) (cl am)
def pyP (f t am : Int32) : Bool := inR f (nI 1) (nI 5) && inR t (nI 1) (nI 5) && inR am (nI 1) (nI 999) && !decide (f = t)
def pyR (s : Row) (f t am : Int32) : Int32 := if pyP f t am = true then wrR s 2 (cl f) (cl am) else -100001
def pyO (s : Row) (f t am : Int32) : Bool := pyP f t am && wrO s 2 (cl f) (cl am)
def pyS (s : Row) (f t am : Int32) : Row := wrS s 2 (cl f) (cl t) (cl am)
def feP (f am : Int32) : Bool := inR f (nI 1) (nI 5) && inR am (nI 1) (nI 999)
def feR (s : Row) (f am : Int32) : Int32 := if feP f am = true then wrR s 3 (cl f) (cl am) else -100001
def feO (s : Row) (f am : Int32) : Bool := feP f am && wrO s 3 (cl f) (cl am)
def feS (s : Row) (f am : Int32) : Row := wrS s 3 (cl f) 0 (cl am)
def ntR (s : Row) (am : Int32) : Int32 := if inR am (nI 0) (nI 999) = true then wrR s 4 0 (cl am) else -100001
def ntO (s : Row) (am : Int32) : Bool := inR am (nI 0) (nI 999) && wrO s 4 0 (cl am)
def ntS (s : Row) (am : Int32) : Row := wrS s 4 0 0 (cl am)
def gbX (s : Row) (e : Nat) : Bool := onP s e (hE s) && !(!decide (e = hE s) && decide (nB s = 10))
def gbR (s : Row) (x : Int32) : Int32 := if hasN x (nE s) = true then (if onP s (cl x) (hE s) = true then (if cl x ≠ hE s ∧ nB s = 10 then -100003 else nI (nB s)) else -100002) else -100001
def gbO (s : Row) (x : Int32) : Bool := hasN x (nE s) && gbX s (cl x)
def gbS (s : Row) (x : Int32) : Row := if cl x = hE s then s else upd (branchS s (hE s) (dep s (hE s) - dep s (cl x))) 1 (nI (cl x))
def xgbS (s c : Row) (e : Nat) : Row := upd (xbranchS s c (hE s) (dep s (hE s) - dep s e) (up s (hE s) (dep s (hE s) - dep s e - 1))) 1 (nI e)
def ptR (s : Row) (x : Int32) : Int32 := if inR x (nI 1) (nI 30) = true then s 3 else -100001
def ptO (x : Int32) : Bool := inR x (nI 1) (nI 30)
def ptS (s : Row) (x : Int32) : Row := upd s 3 x
def dsR (s : Row) (x : Int32) : Int32 := if hasN x (nB s) = true then (if waitB s (cl x) = true then (if nE s = 60 then -100003 else nI (nE s)) else -100002) else -100001
def dsO (s : Row) (x : Int32) : Bool := hasN x (nB s) && waitB s (cl x) && !decide (nE s = 60)
def dsS (s : Row) (x : Int32) : Row := putE (upd s (425 + 4 * cl x + 3) (nI 3)) (nI 4) (nI 0) (nI 0) (nI (lf s (cl x))) (-100009)
def slR (s : Row) : Int32 := if nS s = 8 then -100003 else nI (nS s)
def slO (s : Row) : Bool := !decide (nS s = 8)
def fgS (s : Row) (e : Nat) (a : Int32) : Row := upd s (5 + 7 * e + 4) a
def highB (s : Row) (e : Nat) : Bool := allF (fun a => decide (0 ≤ bal s e a)) 0 6
def fgOK (s : Row) (e : Nat) (a : Int32) : Bool := allF (highB (fgS s e a)) 0 (nE s)
def fgP (s : Row) (x a : Int32) : Bool := !decide (x = nI 0) && hasN x (nE s) && inR a (nI (if kd s (cl x) = 4 then 0 else 1)) (nI 999)
def fgR (s : Row) (x a : Int32) : Int32 := if fgP s x a = true then (if fgOK s (cl x) a = true then me s (cl x) 4 else -100002) else -100001
def fgO (s : Row) (x a : Int32) : Bool := fgP s x a && fgOK s (cl x) a
/-- linking anew: the state behind j entries from e on, and how many links became other ones -/
def rlS (s : Row) (e : Nat) : Nat → Row
  | 0 => s
  | j + 1 => if onP s e (e + j) = true ∧ fitE (rlS s e j) (e + j) = false then upd (rlS s e j) (5 + 7 * (e + j) + 5) (fit (rlS s e j) (e + j)) else rlS s e j
def rlN (s : Row) (e : Nat) : Nat → Nat
  | 0 => 0
  | j + 1 => rlN s e j + (if onP s e (e + j) = true ∧ fitE (rlS s e j) (e + j) = false then 1 else 0)
def xrlS (s c : Row) (e : Nat) : Nat → Row
  | 0 => c
  | j + 1 => if onP s e (e + j) = true ∧ fitE (rlS s e j) (e + j) = false then upd (xrlS s c e j) (5 + (e + j) * 7 + 5) (fit (rlS s e j) (e + j)) else xrlS s c e j
def rkR (s : Row) (x : Int32) : Int32 := if hasN x (nE s) = true then nI (rlN s (cl x) (nE s - cl x)) else -100001
def rkS (s : Row) (x : Int32) : Row := rlS s (cl x) (nE s - cl x)
def tkR (s : Row) (x : Int32) : Int32 := if inR x (nI 0) (nI 1) = true then nI (nE s) else -100001
def tkO (x : Int32) : Bool := inR x (nI 0) (nI 1)
def tkS (s : Row) (x : Int32) : Row := upd (va_cpy s s 0 (481 + 481 * cl x) 481) (1443 + cl x) (nI 1)
def rsR (s : Row) (x : Int32) : Int32 := if inR x (nI 0) (nI 1) = true then (if emptyB s (cl x) = true then -100002 else s (481 + 481 * cl x)) else -100001
def rsO (s : Row) (x : Int32) : Bool := inR x (nI 0) (nI 1) && !emptyB s (cl x)
def rsS (s : Row) (x : Int32) : Row := va_cpy s s (481 + 481 * cl x) 0 481
/-- adopting: the state behind j entries of the branch, those that fail being left out -/
def wF (s : Row) (b : Nat) : Nat → Row
  | 0 => s
  | j + 1 => if aff s (trV s (bal s (hE s)) (brE s b) j) (brE s b j) = true then putE (wF s b j) (me s (brE s b j) 1) (me s (brE s b j) 2) (me s (brE s b j) 3) (me s (brE s b j) 4) (nI (brE s b j)) else wF s b j
def adN (s : Row) (b : Nat) : Nat := trN s (bal s (hE s)) (brE s b) (mn s b)
def adP (s : Row) (x h : Int32) : Bool := hasN x (nB s) && inR h (nI 0) (nI 1)
def adX (s : Row) (b : Nat) (h : Int32) : Bool := waitB s b && !(decide (h = nI 0) && decide (adN s b < mn s b))
def adR (s : Row) (x h : Int32) : Int32 := if adP s x h = true then (if adX s (cl x) h = true then (if 60 < nE s + adN s (cl x) then -100003 else nI (adN s (cl x))) else -100002) else -100001
def adO (s : Row) (x h : Int32) : Bool := adP s x h && adX s (cl x) h && !decide (60 < nE s + adN s (cl x))
def adS (s : Row) (x : Int32) : Row := upd (wF s (cl x) (mn s (cl x))) (425 + 4 * cl x + 3) (nI 2)
/-! what an action makes of the class's rows -/
def ACT (s c hc : Row) (st nx : Nat) (ok : Bool) (S c' hc' : Row) (st' nx' : Nat) : Prop :=
  if ok = true then FS S c' ∧ hc' = va_cpy c hc 0 (nx * 1473) 1473 ∧ st' = recN st ∧ nx' = (nx + 1) % 5 else c' = c ∧ hc' = hc ∧ st' = st ∧ nx' = nx
theorem ACT.no {s c hc S : Row} {st nx : Nat} {ok : Bool} (h : ok = false) : ACT s c hc st nx ok S c hc st nx := by
  unfold ACT; rw [h]; exact ⟨rfl, rfl, rfl, rfl⟩
theorem ACT.yes {s c hc S c' : Row} {st nx : Nat} {ok : Bool} (h : ok = true) (hF : FS S c') : ACT s c hc st nx ok S c' (va_cpy c hc 0 (nx * 1473) 1473) (recN st) ((nx + 1) % 5) := by
  unfold ACT; rw [h]; exact ⟨hF, rfl, rfl, rfl⟩
/-! writing -/
theorem plead_at {s : Row} (hW : WF s) {i : Nat} (h : i < 425 ∨ 465 ≤ i) : plead s i = s i := pleadF_at s _ i (fun b hb => by have := hW.b10; omega)
theorem SE_plead {s : Row} (hW : WF s) : SE s (plead s) := fun e he j hj => plead_at hW (by have := hW.n60; omega)
theorem nE_plead {s : Row} (hW : WF s) : nE (plead s) = nE s := by unfold nE; rw [plead_at hW (by omega)]
theorem hE_plead {s : Row} (hW : WF s) : hE (plead s) = hE s := by unfold hE; rw [plead_at hW (by omega)]
theorem FS_wr {s c : Row} (hF : FS s c) {k f t a : Nat} (hok : wrO s k f a = true) (hf : f < 6) (ht : t < 6) (ha : a ≤ 999) (hk : k < 1000) (hft : k = 2 ∨ k = 3 → f ≠ t) : FS (wrS s k f t a) (xwrS s c k f t a) := by
  obtain ⟨hR, hW, -, -⟩ := id hF
  have hn60 := hW.n60
  unfold wrO at hok
  simp only [Bool.and_eq_true, Bool.not_eq_true', decide_eq_false_iff_not] at hok
  have hn : nE s < 60 := by omega
  have hn' : nE (plead s) < 60 := by rw [nE_plead hW]; exact hn
  have haf := hok.1.2
  unfold affB at haf
  refine hF.keep (KS.tr (KS_plead hW) (KS_put hn')) (KX.tr (KX_plead hW) (KX_put hn')) (XR_put (XR_plead hR hW) (WF_plead hW) hn' _ _ _ _ _) (WF_put (WF_plead hW) hn' hf ht (by rw [nI_tI (by omega)]; omega) (by rw [nI_tI (by omega)]; omega) ?_ ?_)
  · rw [nI_tI (by omega)]
    intro h; exact hft (by omega)
  · rw [nI_tI (by omega), nI_tI (by omega)]
    intro h
    have h2 : k = 2 ∨ k = 3 := by omega
    rw [decide_eq_true h2] at haf
    simp only [Bool.not_true, Bool.false_or] at haf
    rw [hE_plead hW, bal_same hW (SE_plead hW) hW.hn]
    exact of_decide_eq_true haf
/-! going back -/
theorem FS_gb {s c : Row} (hF : FS s c) {e : Nat} (he : e < nE s) (hon : onP s e (hE s) = true) (hne : e ≠ hE s) (hn : nB s < 10) : FS (upd (branchS s (hE s) (dep s (hE s) - dep s e)) 1 (nI e)) (xgbS s c e) := by
  obtain ⟨hR, hW, -, -⟩ := id hF
  obtain ⟨-, -, h3⟩ := dep_on hW hW.hn hon
  have h3 := h3 hne
  have h1 := dep_ge1 s e
  have hWb := WF_branch hW hn hW.hn (L := hE s) (N := dep s (hE s) - dep s e) (by omega) (by omega)
  have hRb := XR_branch hR hW hn hW.hn (L := hE s) (N := dep s (hE s) - dep s e) (by omega) (by omega)
  have e0 : nE (branchS s (hE s) (dep s (hE s) - dep s e)) = nE s := by unfold nE; rw [branchS_at (by omega) (by omega)]
  exact hF.keep (KS.u (KS_branch hn) (by omega)) (KX.u (KX_branch hn) (by omega)) (XR_head hRb hWb (nI e)) (WF_head hWb (by rw [e0]; exact he))
/-! dismissing -/
theorem FS_ds {s c : Row} (hF : FS s c) {b : Nat} (hb : b < nB s) (hn : nE s < 60) : FS (putE (upd s (425 + 4 * b + 3) (nI 3)) (nI 4) (nI 0) (nI 0) (nI (lf s b)) (-100009)) (xputE (upd s (425 + 4 * b + 3) (nI 3)) (upd c (425 + b * 5 + 4) (nI 3)) (nI 4) (nI 0) (nI 0) (nI (lf s b)) (-100009)) := by
  obtain ⟨hR, hW, -, -⟩ := id hF
  have hb10 := hW.b10
  have hlf := hW.lfl hb
  have hn60 := hW.n60
  have hRb := XR_st hR hW (b0 := b) (by omega) (nI 3)
  have hWb := WF_st hW (b0 := b) (by omega) (nI 3)
  have e0 : nE (upd s (425 + 4 * b + 3) (nI 3)) = nE s := by unfold nE; rw [pk_un (by omega)]
  have hn' : nE (upd s (425 + 4 * b + 3) (nI 3)) < 60 := by rw [e0]; exact hn
  exact hF.keep (KS.tr (KS.u (KS.rf s) (by omega)) (KS_put hn')) (KX.tr (KX.u (KX.rf c) (by omega)) (KX_put hn')) (XR_put hRb hWb hn' _ _ _ _ _) (WF_put hWb hn' (by omega) (by omega) (by rw [nI_tI (by omega)]; omega) (by rw [nI_tI (by omega)]; omega) (fun h => by rw [show (nI 4).toInt = 4 by decide] at h; omega) (fun h => by rw [show (nI 4).toInt = 4 by decide] at h; omega))
theorem cl_n {n : Nat} (h : n < 2147483648) : cl (nI n) = n := nI_clamp h
theorem affB_eq {s u : Row} (hW : WF s) (hV : SV u (bal s (hE s))) {k f a : Nat} (hk : k < 1000) (hf : f < 6) (ha : a < 1000) : (!decide ((nI k).toInt = 2 ∨ (nI k).toInt = 3) || decide ((nI a).toInt ≤ (u f).toInt)) = affB s k f a := by
  have hb := bal_bd hW hW.hn f hf
  unfold affB
  rw [nI_tI (by omega), nI_tI (by omega), hV f hf, iI_toInt (by omega) (by omega)]
  congr 2
  congr 1
  exact propext ⟨fun h => by omega, fun h => by omega⟩
