theorem ml_fin {α β : Type} {o : Option β} {r : α ⊕ β} {F : α → Prop} {G : β → Prop} (h : ml o = some r) (hF : Sum.elim F G r) : ∃ u, o = some u ∧ G u := by
  obtain ⟨u, h1, h2⟩ := ml_some h
  subst h2
  exact ⟨u, h1, hF⟩
/-- an end without answer, with cells made: u tells them -/
abbrev cQn {S : Type} (D : va_G) (wn : S → va_W) (A : Nat → Prop) : Array Value → State → Outcome → State → Prop := va_Qv (fun (_ : S) => True) (fun u t => va_P D vwCl (wn u) t.heap ∧ va_D A (wn u)) A
def CtN {S : Type} (l : Launch) (y : MethodName) (ws : List Cond) (rm : Room) (D : va_G) (T : List (ClassId × FieldType)) (av : List Value) (w : va_W) (wn : S → va_W) (mc ms : Nat) : Prop := ∀ sz : Nat, Met l y ws rm (cPre D T av w sz) (cQn D wn (va_A w sz)) mc ms (va_A w sz)
theorem CtN.make {S : Type} {l : Launch} {y : MethodName} {ws ws' : List Cond} {rm : Room} {D : va_G} {T : List (ClassId × FieldType)} {av : List Value} {w : va_W} {wn : S → va_W} {mc ms : Nat} {cc : ByteArray} {maxL : Nat} (hy : plainName y.cls = true) (hw : ws = Cond.code y cc maxL none :: ws') (hlen : (lg_sl av).length ≤ maxL)
    (body : ∀ (p : Program) (e : Env) (s : State) (m : MethodId) (below : List Frame) (meth : Method) (c : Code) (A : Nat → Prop) (ls : Array Slot), cx p s m meth c cc maxL none y.cls ws av.toArray → meth.name = y.name → kn D T s → (∀ q : Nat, s.heap.size ≤ q → A q) → va_P D vwCl w s.heap → va_D A w → lv_has ls maxL (lv_args 0 av) →
      W p l e rm s m av.toArray below meth c s.heap [] 0 0 (MQ below (cQn D wn A) av.toArray s mc ms A) (F0 m 0 ls [])) : CtN l y ws rm D T av w wn mc ms := by
  intro sz
  refine Met.ofW (cc := cc) (maxL := maxL) (ret := none) hy hw ?_
  intro p e s m args below meth c s₁ B hml hv
  obtain ⟨rfl, hsz, hP, hN, hD0⟩ := hv
  subst hsz
  rw [lg_entry_eq]
  exact body p e s m below meth c (va_A w s.heap.size) _ ⟨B.exec, B.bytes, B.returns, hml, findClass_of_methodNamed B.named, atoms_spec (ws := ws) B.pre, B.notSynchronized⟩ (name_of_methodNamed B.named B.method).1 hN (fun q h => Or.inr h) hP (hD0.self (sz := s.heap.size)) (lv_entry av hlen)
section BB
variable {p : Program} {l : Launch} {e : Env} {R : Room} {s : State} {m : MethodId} {args : Array Value} {below : List Frame} {meth : Method} {c : Code} {H : Heap} {locs : List Loc} {cells slots mc ms : Nat} {Q : State → Prop} {cc : ByteArray} {pc : Nat} {ls : Array Slot} {rest st0 : List Value} {a : Array Value} {A : Nat → Prop} {D : va_G} {T : List (ClassId × FieldType)} {ws0 wc wr : va_W}
theorem rtN {S : Type} {wn : S → va_W} (u : S) (hx : p.tables.exec = Jvm.exec) (hb : c.code = cc) (hr : meth.sig.returnType = none) (hlk : meth.locks = false) (hP : va_P D vwCl (wn u) H) (hD : va_D A (wn u)) (hS : va_S A s.heap H locs) (hd : decode cc pc = .ok (.return_, 1)) : W p l e R s m args below meth c H locs mc ms (MQ below (cQn D wn A) args s mc ms A) (F0 m pc ls []) :=
  W.vret hx hb hr (fun t ht _ => ⟨⟨u, rfl, trivial, by rw [ht]; exact hP, hD⟩, hS.F ht⟩) hS.2.2 hd hlk
theorem caC {S : Type} {wn : S → va_W} (hr : va_Run p l e R s m args below meth c H locs cells slots mc ms (F0 m pc ls st0) rest (cQn D wn (va_A wc H.size) a) (va_A wc H.size)) (hP : va_P D vwCl ws0 H) (hD : va_D A ws0) (hS : va_S A s.heap H locs) (hA : ∀ q : Nat, s.heap.size ≤ q → A q) (isC isR : List Nat) (hC : isC.map (fun i => ws0[i]?) = wc.map some) (hR : isR.map (fun i => ws0[i]?) = wr.map some) (hn : va_nd isR = true) (hdis : ∀ i ∈ isR, i ∉ isC)
    (kk : ∀ (u : S) (H1 : Heap) (locs1 : List Loc), va_P D vwCl (wr ++ wn u) H1 → va_D A (wr ++ wn u) → va_S A s.heap H1 locs1 → W p l e R s m args below meth c H1 locs1 (cells + mc) (slots + ms) Q (F0 m (pc + 3) ls rest)) : W p l e R s m args below meth c H locs cells slots Q (F0 m pc ls st0) := by
  have hF := va_free hD hS hA isC hC
  refine va_callv hr hS (fun q _ h => hF q h) hF (fun u t H1 locs1 ht hvm hw hB hz hk hS1 => ?_)
  obtain ⟨hP1, hD1⟩ := hB
  rw [ht] at hP1
  obtain ⟨hP2, hD2⟩ := va_join hP hD isC isR hC hR hn hdis hk hF hP1 hD1
  exact kk u H1 locs1 hP2 hD2 hS1
/-- the class of a new row is the one that is known -/
theorem arr_cI {cI cL cC cZ cA : ClassId} (h : va_K D vwCl (tyz cI cL cC cZ ++ [(cA, .int)]) s) : cA = cI := Option.some.inj ((h.2 4 _ rfl).2.symm.trans (h.2 0 _ rfl).2)
theorem arr_cL {cI cL cC cZ cA : ClassId} (h : va_K D vwCl (tyz cI cL cC cZ ++ [(cA, .long)]) s) : cA = cL := Option.some.inj ((h.2 4 _ rfl).2.symm.trans (h.2 1 _ rfl).2)
theorem arr_cC {cI cL cC cZ cA : ClassId} (h : va_K D vwCl (tyz cI cL cC cZ ++ [(cA, .char)]) s) : cA = cC := Option.some.inj ((h.2 4 _ rfl).2.symm.trans (h.2 2 _ rfl).2)
theorem arr_cZ {cI cL cC cZ cA : ClassId} (h : va_K D vwCl (tyz cI cL cC cZ ++ [(cA, .boolean)]) s) : cA = cZ := Option.some.inj ((h.2 4 _ rfl).2.symm.trans (h.2 3 _ rfl).2)
end BB
