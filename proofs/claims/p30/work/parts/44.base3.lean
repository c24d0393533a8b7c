/-! constructors: cells and slots come -/
abbrev rmc (f ce sl n : Nat) : Room := ({ frames := f, cells := ce, slots := sl, locals := n } : Room)
def MC (l : Launch) (y : MethodName) (wl : List Cond) (rm : Room) (D : va_G) (q : ClassId × ClassId) (av : List Value) (ws : va_W) {S : Type} (post : S → Prop) (ws' : S → va_W) (mc ms : Nat) : Prop :=
  ∀ sz, Met l y wl rm (va_Pc av (PB D q ws sz)) (va_Qv post (fun u t => va_P D vwCl (ws' u) t.heap ∧ va_D (va_A ws sz) (ws' u)) (va_A ws sz)) mc ms (va_A ws sz)
theorem MC.enter {l : Launch} {y : MethodName} {wl wl' : List Cond} {rm : Room} {D : va_G} {q : ClassId × ClassId} {av : List Value} {ws : va_W} {S : Type} {post : S → Prop} {ws' : S → va_W} {mc ms : Nat} (cc : ByteArray) (nL : Nat) (hy : plainName y.cls = true) (hw : wl = Cond.code y cc nL none :: wl') (hrm : (headSpec wl rm).room = rm) (hn : (lg_sl av).length ≤ nL)
    (kk : ∀ (p : Program) (e : Env) (s : State) (m : MethodId) (args : Array Value) (below : List Frame) (meth : Method) (c : Code) (Q : State → Prop) (A : Nat → Prop), (∀ q : Nat, s.heap.size ≤ q → A q) → AT p s m c y wl cc nL args D q → meth.name = y.name →
      (∀ (u : S) (H : Heap) (locs : List Loc) (pc : Nat) (ls : Array Slot), post u → va_P D vwCl (ws' u) H → va_D A (ws' u) → va_S A s.heap H locs → decode cc pc = .ok (.return_, 1) → W p l e rm s m args below meth c H locs mc ms Q (F0 m pc ls [])) →
      ∀ (H : Heap) (locs : List Loc), va_P D vwCl ws H → va_D A ws → va_S A s.heap H locs → ∀ ls : Array Slot, lv_has ls nL (lv_args 0 av) → W p l e rm s m args below meth c H locs 0 0 Q (F0 m 0 ls [])) : MC l y wl rm D q av ws post ws' mc ms := by
  intro sz
  refine Met.ofW (cc := cc) (maxL := nL) (ret := none) hy hw ?_
  intro p e s m args below meth c s₁ B hml hv
  obtain ⟨rfl, ⟨hsz, hP, hK, hN⟩, hD0⟩ := hv
  subst hsz
  have hlocks := B.notSynchronized
  rw [lg_entry_eq, hrm]
  refine kk p e s m av.toArray below meth c _ (va_A ws s.heap.size) (fun q h => Or.inr h) ⟨B.exec, B.bytes, hml, findClass_of_methodNamed B.named, atoms_spec (ws := wl) B.pre, hK, hN⟩ (name_of_methodNamed B.named B.method).1 ?_ s.heap [] hP hD0.self va_S.rf _ (lv_entry av hn)
  intro u H locs pc ls hp hP1 hD1 hS hd
  exact W.vret B.exec B.bytes B.returns (fun t ht hW => ⟨⟨u, rfl, hp, by rw [ht]; exact hP1, hD1⟩, hS.F ht⟩) hS.2.2 hd
theorem preIB {D : va_G} {q : ClassId × ClassId} {A : Nat → Prop} {ws wc : va_W} {s : State} {H : Heap} (hK : va_K D vwCl (TY q) s) (hN : NW s) (hP : va_P D vwCl ws H) (hD : va_D A ws) (is : List Nat) (hn : va_nd is = true) (hC : is.map (fun i => ws[i]?) = wc.map some) (hC2 : is.filterMap (fun i => ws[i]?) = wc) (b : Nat) (As : List Value) : PreS s H (va_Pc (.ref b :: As) (PB D q wc H.size)) (.ref b :: As) :=
  ⟨PB.blind, fun U hU hW => ⟨rfl, PR.at hK hN hP is hC2 hU hW, (hD.sub is hn hC).weaken (fun _ _ _ _ => trivial)⟩⟩
section RW3
variable {p : Program} {l : Launch} {e : Env} {R : Room} {s : State} {m : MethodId} {args : Array Value} {below : List Frame} {meth : Method} {c : Code} {H : Heap} {locs : List Loc} {cells slots : Nat} {Q : State → Prop}
variable {cc : ByteArray} {pc : Nat} {ls : Array Slot} {rest st0 : List Value} {D : va_G} {q : ClassId × ClassId} {A : Nat → Prop} {ws : va_W} {H0 : Heap}
theorem call_c {S : Type} {post : S → Prop} {ws' : S → va_W} {a : Array Value} {wc wr : va_W} {mc ms : Nat} (hr : va_Run p l e R s m args below meth c H locs cells slots mc ms (F0 m pc ls st0) rest (va_Qv post (fun u t => va_P D vwCl (ws' u) t.heap ∧ va_D (va_A wc H.size) (ws' u)) (va_A wc H.size) a) (va_A wc H.size)) (hP : va_P D vwCl ws H) (hD : va_D A ws) (hS : va_S A H0 H locs) (hA : ∀ q, H0.size ≤ q → A q)
    (isC isR : List Nat) (hC : isC.map (fun i => ws[i]?) = wc.map some) (hR : isR.map (fun i => ws[i]?) = wr.map some) (hn : va_nd isR = true) (hdis : ∀ i ∈ isR, i ∉ isC)
    (kk : ∀ (u : S) (H1 : Heap) (locs1 : List Loc), post u → va_P D vwCl (wr ++ ws' u) H1 → va_D A (wr ++ ws' u) → va_S A H0 H1 locs1 → W p l e R s m args below meth c H1 locs1 (cells + mc) (slots + ms) Q (F0 m (pc + 3) ls rest)) : W p l e R s m args below meth c H locs cells slots Q (F0 m pc ls st0) := by
  have hf := va_free (wc := wc) hD hS hA isC hC
  refine va_callv hr hS (fun q _ h => hf q h) hf (fun u t H1 locs1 ht hvm hw hB hz hk hS1 => ?_)
  obtain ⟨hP1, hD1⟩ := hB
  rw [ht] at hP1
  obtain ⟨h1, h2⟩ := va_join hP hD isC isR hC hR hn hdis hk hf hP1 hD1
  exact kk u H1 locs1 hw h1 h2 hS1
theorem nI_nn0 {n : Nat} (h : n < 2147483648) : ¬ nI n < 0 := by
  rw [Int32.lt_iff_toInt_lt, nI_tI h, show (0 : Int32).toInt = 0 from rfl]
  omega
theorem r_newi (hx : p.tables.exec = Jvm.exec) (hb : c.code = cc) (harr : (Cond.arrayClass .int).before args s = true) (hK : va_K D vwCl (TY q) s) (hP : va_P D vwCl ws H) (hD : va_D A ws) (hS : va_S A H0 H locs) (hA : ∀ q, H0.size ≤ q → A q) {n : Nat} (hn : n < 100000) (hcells : cells + 1 ≤ R.cells) (hslots : slots + n ≤ R.slots) (hdg : decode cc pc = .ok (.newarray .int, 2))
    (kk : ∀ (a : Nat) (H1 : Heap), va_P D vwCl (ws ++ [(a, .inl (q.1, n, .inl (fun _ => 0)))]) H1 → va_D A (ws ++ [(a, .inl (q.1, n, .inl (fun _ => 0)))]) → va_S A H0 H1 locs → W p l e R s m args below meth c H1 locs (cells + 1) (slots + n) Q (F0 m (pc + 2) ls (.ref a :: rest))) : W p l e R s m args below meth c H locs cells slots Q (F0 m pc ls (.int (nI n) :: rest)) := by
  refine va_newa (atype := .int) (ty := .int) (a0 := (n, .inl (fun _ => 0))) hx hb harr rfl hK hP hD hS hA (fun cA => rfl) (nI_nn0 (by omega)) (nI_clamp (by omega)) (by show n * 4 ≤ 536870912; omega) hcells hslots hdg (fun a cA H1 hK1 hP1 hD1 hS1 => ?_)
  have h1 := (hK1.2 0 (q.1, .int) rfl).2
  have h2 := (hK1.2 1 (cA, .int) rfl).2
  have h3 : cA = q.1 := Option.some.inj (Eq.trans (Eq.symm h2) h1)
  rw [h3] at hP1 hD1
  exact kk a H1 hP1 hD1 hS1
end RW3
/-! the first states -/
def led0 : Row := upd (upd (upd (upd (upd (fun _ => 0) 0 (nI 1)) 2 (nI 3)) (5 + 0 * 7 + 4) (-100009)) (5 + 0 * 7 + 5) (nI 1)) (5 + 0 * 7 + 6) (-100009)
def sts0 : Row := upd (upd (upd (upd (upd (fun _ => 0) 0 (nI 1)) 3 (nI 3)) 5 (-100009)) 10 (nI 1)) 11 (-100009)
