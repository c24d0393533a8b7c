/-! a method that reads the script; remainders and quotients of small numbers -/
def PRX (D : va_G) (q : ClassId × ClassId) (b L : Nat) (xs : Row) (sz : Nat) (U : State) : Prop := PR D q [] sz U ∧ va_X b L xs U U.heap ∧ b < sz
theorem PRX.blind {D : va_G} {q : ClassId × ClassId} {b L : Nat} {xs : Row} {sz : Nat} {av : List Value} : FrameBlind (va_Pc av (PRX D q b L xs sz)) := fun a U g mk h =>
  ⟨h.1, (PR.blind (av := av) a U g mk ⟨h.1, h.2.1⟩).2, va_X.moved (u := U) (U := U.calling g mk a) (Vm.Alike.refl U.vm) h.2.2.1, h.2.2.2⟩
def MRX (l : Launch) (y : MethodName) (wl : List Cond) (rm : Room) (D : va_G) (q : ClassId × ClassId) (av : List Value) (b L : Nat) (xs : Row) (post : Int32 → Prop) : Prop :=
  ∀ sz, Met l y wl rm (va_Pc av (PRX D q b L xs sz)) (va_Qi (fun (r : Int32) (_ : Unit) => post r) (fun _ _ => True) (va_A [] sz)) 0 0 (va_A [] sz)
theorem MRX.enter {l : Launch} {y : MethodName} {wl wl' : List Cond} {rm : Room} {D : va_G} {q : ClassId × ClassId} {av : List Value} {b L : Nat} {xs : Row} {post : Int32 → Prop} (cc : ByteArray) (nL : Nat) (ty : FieldType) (hy : plainName y.cls = true) (hw : wl = Cond.code y cc nL (some ty) :: wl') (hrm : (headSpec wl rm).room = rm) (hn : (lg_sl av).length ≤ nL)
    (kk : ∀ (p : Program) (e : Env) (s : State) (m : MethodId) (args : Array Value) (below : List Frame) (meth : Method) (c : Code) (Q : State → Prop) (A : Nat → Prop), (∀ q : Nat, s.heap.size ≤ q → A q) → AT p s m c y wl cc nL args D q → va_X b L xs s s.heap → b < s.heap.size → ¬ A b →
      (∀ (r : Int32) (H : Heap) (locs : List Loc) (pc : Nat) (ls : Array Slot), post r → narrow ty (.int r) = .int r → va_S A s.heap H locs → decode cc pc = .ok (.ireturn, 1) → W p l e rm s m args below meth c H locs 0 0 Q (F0 m pc ls [.int r])) →
      ∀ (H : Heap) (locs : List Loc), va_P D vwCl [] H → va_S A s.heap H locs → ∀ ls : Array Slot, lv_has ls nL (lv_args 0 av) → W p l e rm s m args below meth c H locs 0 0 Q (F0 m 0 ls [])) : MRX l y wl rm D q av b L xs post := by
  intro sz
  refine Met.ofW (cc := cc) (maxL := nL) (ret := some ty) hy hw ?_
  intro p e s m args below meth c s₁ B hml hv
  obtain ⟨rfl, ⟨hsz, hP, hK, hN⟩, hX, hbl⟩ := hv
  subst hsz
  have hlocks := B.notSynchronized
  rw [lg_entry_eq, hrm]
  refine kk p e s m av.toArray below meth c _ (va_A [] s.heap.size) (fun q h => Or.inr h) ⟨B.exec, B.bytes, hml, findClass_of_methodNamed B.named, atoms_spec (ws := wl) B.pre, hK, hN⟩ hX hbl (fun z => z.elim (fun ⟨k, e, z⟩ => by simp at z) (fun z => absurd z (Nat.not_le.mpr hbl))) ?_ s.heap [] hP va_S.rf _ (lv_entry av hn)
  intro r H locs pc ls hp hnr hS hd
  exact W.zret (v := r) B.exec B.bytes B.returns hnr (fun t ht hW => ⟨⟨r, (), rfl, hp, trivial⟩, hS.F ht⟩) hS.2.2 hd
theorem preX {D : va_G} {q : ClassId × ClassId} {A : Nat → Prop} {b L : Nat} {xs : Row} {s : State} {H : Heap} {locs : List Loc} (hK : va_K D vwCl (TY q) s) (hN : NW s) (hX : va_X b L xs s s.heap) (hbl : b < s.heap.size) (hbA : ¬ A b) (hS : va_S A s.heap H locs) (As : List Value) : PreS s H (va_Pc As (PRX D q b L xs H.size)) As :=
  ⟨PRX.blind, fun U hU hW => ⟨rfl, ⟨by rw [hU], (fun _ _ h => by cases h), va_K.moved hW.alike hK, hN.warm hW⟩, (va_X.moved hW.alike hX).kept (by rw [hU]; exact hS.2.1 b hbl hbA), Nat.lt_of_lt_of_le hbl hS.1⟩⟩
section RWM
variable {p : Program} {l : Launch} {e : Env} {R : Room} {s : State} {m : MethodId} {args : Array Value} {below : List Frame} {meth : Method} {c : Code} {H : Heap} {locs : List Loc} {cells slots : Nat} {Q : State → Prop}
variable {cc : ByteArray} {pc : Nat} {ls : Array Slot} {rest : List Value}
theorem r_irem_n (hx : p.tables.exec = Jvm.exec) (hb : c.code = cc) {a b : Nat} (ha : a < 2147483648) (h0 : 0 < b) (hb2 : b < 2147483648) (hdg : decode cc pc = .ok (.irem, 1)) (k : W p l e R s m args below meth c H locs cells slots Q (F0 m (pc + 1) ls (.int (nI (a % b)) :: rest))) : W p l e R s m args below meth c H locs cells slots Q (F0 m pc ls (.int (nI b) :: .int (nI a) :: rest)) :=
  lv_irem hx hb hdg (nI_ne0 h0 hb2) (by rw [pk_rem ha h0 hb2]; exact k)
theorem r_idiv_n (hx : p.tables.exec = Jvm.exec) (hb : c.code = cc) {a b : Nat} (ha : a < 2147483648) (h0 : 0 < b) (hb2 : b < 2147483648) (hdg : decode cc pc = .ok (.idiv, 1)) (k : W p l e R s m args below meth c H locs cells slots Q (F0 m (pc + 1) ls (.int (nI (a / b)) :: rest))) : W p l e R s m args below meth c H locs cells slots Q (F0 m pc ls (.int (nI b) :: .int (nI a) :: rest)) :=
  lv_idiv hx hb hdg (nI_ne0 h0 hb2) (by rw [pk_div ha h0 hb2]; exact k)
end RWM
theorem et7 {s : Row} {e : Nat} (h : onP s e (hE s) = true) : etN s e 7 = nI 1 := by
  show bI (onP s e (hE s)) = _
  rw [h]; rfl
theorem et6 {s : Row} {e : Nat} (h : fitE s e = true) : etN s e 6 = nI 1 := by
  show bI (fitE s e) = _
  rw [h]; rfl
theorem cnt_b_t {f : Nat → Bool} {n : Nat} (h : f n = true) : nI (cntF (fun k => !f k) n + (1 - 1)) = nI (cntF (fun k => !f k) (n + 1)) := by
  rw [cntF, h]; rfl
theorem cnt_b_f {f : Nat → Bool} {n : Nat} (h : f n = false) : nI (cntF (fun k => !f k) n + (1 - 0)) = nI (cntF (fun k => !f k) (n + 1)) := by
  rw [cntF, h]; rfl
theorem sd2_t {s : Row} {k : Nat} (h : sealB s k = true) : sdN s k 2 = nI 1 := by
  show bI (sealB s k) = _
  rw [h]; rfl
theorem sd2_f {s : Row} {k : Nat} (h : sealB s k = false) : sdN s k 2 = nI 0 := by
  show bI (sealB s k) = _
  rw [h]; rfl
theorem brN_3 {s : Row} {b : Nat} (h : mb s b 3 = nI 3) : brN s b 4 = nI 3 := by
  have h1 : ¬ loudB s b = true := fun z => by
    have q := wait_0 (loud_t z).1
    rw [h] at q
    exact absurd q (by decide)
  exact (brN_n h1).trans h
theorem st_wait {s : Row} (hb : 0 < nB s) (h0 : cntF (loudB s) (nB s) = 0) : (brN s 0 4).toInt = 0 ↔ waitB s 0 = true := by
  rw [brN_n (no_loud hb h0)]
  constructor
  · intro h
    exact decide_eq_true (i32_eq (by rw [h]; rfl))
  · intro h
    rw [wait_0 h]; rfl
