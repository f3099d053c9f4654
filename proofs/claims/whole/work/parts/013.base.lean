/-! pure words: guard, let, bind; a loop as a run of a step -/
def gd {β : Type} (b : Prop) [Decidable b] (k : Option β) : Option β := if b then k else none
def lt_ {α β : Type} (x : α) (k : α → β) : β := k x
def bd {α β : Type} (o : Option α) (k : α → Option β) : Option β := match o with
  | none => none
  | some x => k x
def br {β : Type} (b : Prop) [Decidable b] (x y : Option β) : Option β := if b then x else y
def ml {α β : Type} (o : Option β) : Option (α ⊕ β) := match o with
  | none => none
  | some x => some (.inr x)
theorem gd_some {β : Type} {b : Prop} [Decidable b] {k : Option β} {r : β} (h : gd b k = some r) : b ∧ k = some r := by
  unfold gd at h
  by_cases hb : b
  · rw [if_pos hb] at h; exact ⟨hb, h⟩
  · rw [if_neg hb] at h; cases h
theorem lt_some {α β : Type} {x : α} {k : α → Option β} {r : β} (h : lt_ x k = some r) (y : α) (e : y = x) : k y = some r := by subst e; exact h
theorem bd_some {α β : Type} {o : Option α} {k : α → Option β} {r : β} (h : bd o k = some r) : ∃ u, o = some u ∧ k u = some r := by
  cases o with
  | none => cases h
  | some x => exact ⟨x, rfl, h⟩
theorem br_pos {β : Type} {b : Prop} [Decidable b] {x y : Option β} {r : β} (hb : b) (h : br b x y = some r) : x = some r := by unfold br at h; rw [if_pos hb] at h; exact h
theorem br_neg {β : Type} {b : Prop} [Decidable b] {x y : Option β} {r : β} (hb : ¬ b) (h : br b x y = some r) : y = some r := by unfold br at h; rw [if_neg hb] at h; exact h
theorem ml_some {α β : Type} {o : Option β} {r : α ⊕ β} (h : ml o = some r) : ∃ u, o = some u ∧ r = .inr u := by
  cases o with
  | none => cases h
  | some x => cases h; exact ⟨x, rfl, rfl⟩
theorem bd_eq {α β : Type} {o : Option α} {k : α → Option β} {u : α} (h : o = some u) : bd o k = k u := by rw [h]; rfl
theorem gd_eq {β : Type} {b : Prop} [Decidable b] {k : Option β} (h : b) : gd b k = k := if_pos h
def itr {L T : Type} (step : L → Option (L ⊕ T)) : Nat → L → Option T
  | 0, _ => none
  | n + 1, q => match step q with
    | none => none
    | some (.inl q2) => itr step n q2
    | some (.inr t) => some t
theorem itr_mono {L T : Type} {step : L → Option (L ⊕ T)} {t : T} : ∀ {n : Nat} {q : L}, itr step n q = some t → itr step (n + 1) q = some t := by
  intro n
  induction n with
  | zero => intro q h; cases h
  | succ n ih =>
    intro q h
    unfold itr at h ⊢
    cases hs : step q with
    | none => rw [hs] at h; cases h
    | some z =>
      rw [hs] at h
      cases z with
      | inl q2 => exact ih h
      | inr t2 => exact h
theorem itr_le {L T : Type} {step : L → Option (L ⊕ T)} {t : T} {q : L} {n k : Nat} (h : itr step n q = some t) : itr step (n + k) q = some t := by
  induction k with
  | zero => exact h
  | succ k ih => exact itr_mono ih
theorem itr_one {L T : Type} {step : L → Option (L ⊕ T)} {t t2 : T} {q : L} {n k : Nat} (h : itr step n q = some t) (h2 : itr step k q = some t2) : t = t2 := by
  have a := itr_le (k := k) h
  have b := itr_le (k := n) h2
  rw [Nat.add_comm] at b
  rw [a] at b
  exact Option.some.inj b
noncomputable def run {L T : Type} (step : L → Option (L ⊕ T)) (q : L) : Option T := @dite _ (∃ t n, itr step n q = some t) (Classical.propDecidable _) (fun h => some h.choose) (fun _ => none)
theorem run_itr {L T : Type} {step : L → Option (L ⊕ T)} {q : L} {t : T} (h : run step q = some t) : ∃ n, itr step n q = some t := by
  unfold run at h
  by_cases hx : ∃ t n, itr step n q = some t
  · rw [dif_pos hx] at h
    obtain ⟨n, hn⟩ := hx.choose_spec
    exact ⟨n, by rw [← Option.some.inj h]; exact hn⟩
  · rw [dif_neg hx] at h; cases h
theorem itr_run {L T : Type} {step : L → Option (L ⊕ T)} {q : L} {t : T} {n : Nat} (h : itr step n q = some t) : run step q = some t := by
  have hx : ∃ t n, itr step n q = some t := ⟨t, n, h⟩
  unfold run
  rw [dif_pos hx]
  obtain ⟨k, hk⟩ := hx.choose_spec
  rw [itr_one hk h]
theorem run_inr {L T : Type} {step : L → Option (L ⊕ T)} {q : L} {t : T} (h : step q = some (.inr t)) : run step q = some t := by
  refine itr_run (n := 1) ?_
  unfold itr
  rw [h]
theorem run_inl {L T : Type} {step : L → Option (L ⊕ T)} {q q2 : L} (h : step q = some (.inl q2)) : run step q = run step q2 := by
  by_cases hx : ∃ t n, itr step n q2 = some t
  · obtain ⟨t, n, hn⟩ := hx
    rw [itr_run hn]
    refine itr_run (n := n + 1) ?_
    unfold itr
    rw [h]
    exact hn
  · cases h1 : run step q with
    | some t =>
      obtain ⟨n, hn⟩ := run_itr h1
      cases n with
      | zero => cases hn
      | succ n =>
        unfold itr at hn
        rw [h] at hn
        exact absurd ⟨t, n, hn⟩ hx
    | none =>
      cases h2 : run step q2 with
      | none => rfl
      | some t => exact absurd ⟨t, run_itr h2⟩ hx
theorem loop_rule {L T : Type} (step : L → Option (L ⊕ T)) (F : L → Prop) (G : T → Prop) (body : ∀ (q : L) (t : L ⊕ T), step q = some t → Sum.elim F G t → F q) : ∀ (q : L) (t : T), run step q = some t → G t → F q := by
  intro q t h hG
  obtain ⟨n, hn⟩ := run_itr h
  clear h
  revert q
  induction n with
  | zero => intro q h; cases h
  | succ n ih =>
    intro q h
    unfold itr at h
    cases hs : step q with
    | none => rw [hs] at h; cases h
    | some z =>
      rw [hs] at h
      cases z with
      | inl q2 => exact body q _ hs (ih q2 h)
      | inr t2 => exact body q _ hs (by cases h; exact hG)

theorem isz_nar {v : Int32} (h : v = 0 ∨ v = 1) : narrow .boolean (.int v) = .int v := by rcases h with rfl | rfl <;> rfl
theorem isz_fit {v : Int32} (h : v = 0 ∨ v = 1) : fits .boolean (.int v) = true := by rcases h with rfl | rfl <;> rfl
theorem ix_in {i : Int32} {n : Nat} (h : ¬ i < 0 ∧ i.toNatClampNeg < n) : vp_in i n := by
  intro q
  rcases q with q | q
  · exact h.1 q
  · omega

abbrev vwCl : List vw_C := [(RX0, TX0, 11), (RX1, TX1, 3), (RX2, TX2, 12), (RX3, TX3, 4), (RX4, TX4, 4), (RX5, TX5, 8), (RX6, TX6, 1), (RX7, TX7, 9), (RX8, TX8, 17)]
def tyz (cI cL cC cZ : ClassId) : List (ClassId × FieldType) := [(cI, .int), (cL, .long), (cC, .char), (cZ, .boolean)]
def nlt : List (String × Nat × MethodName × String) := [(RX3, 54, yX7_isNumber, "LittleSums"), (RX3, 23, yX7_isSlot, "LittleSums"), (RX6, 27, yX7_has, "LittleSums"), (RX6, 45, yX7_greatestOf, "LittleSums"), (RX5, 39, yX7_listNumbers, "LittleSums"), (RX6, 48, yX7_numberAt, "LittleSums"), (RX0, 39, yX7_leastOf, "LittleSums"), (RX0, 46, yX7_greatestOf, "LittleSums"), (RX0, 90, yX7_greatestDivisor, "LittleSums"), (RX2, 40, yX7_listNumbers, "LittleSums"), (RX5, 81, yX7_greatestDivisor, "LittleSums"), (RX7, 15, yX3_init, "LittleSums"), (RX7, 22, yX1_init, "LittleSums"), (RX7, 29, yX6_init, "LittleSums"), (RX7, 39, yX0_init, "LittleSums"), (RX7, 46, yX2_init, "LittleSums"), (RX7, 53, yX5_init, "LittleSums"), (RX7, 60, yX4_init, "LittleSums")]
def nl (U : State) : Prop := ∀ q ∈ nlt, va_Nw (.methodLinkNest q.1 q.2.1 q.2.2.1 q.2.2.2) U
theorem nl.warm {s U : State} (hW : s.WarmedH U.vm) (h : nl s) : nl U := fun q hq => va_Nw.warmM hW (h q hq)
theorem nl.same {u U : State} (e : u.vm = U.vm) (h : nl u) : nl U := fun q hq => va_Nw.same rfl e (h q hq)
def kn (D : va_G) (T : List (ClassId × FieldType)) (U : State) : Prop := va_K D vwCl T U ∧ nl U
abbrev cPre (D : va_G) (T : List (ClassId × FieldType)) (av : List Value) (w : va_W) (sz : Nat) : Array Value → State → Prop := va_Pc av (fun U => U.heap.size = sz ∧ va_P D vwCl w U.heap ∧ kn D T U ∧ va_D (fun _ => True) w)
abbrev cQi (D : va_G) (r0 : Int32) (A : Nat → Prop) (w : va_W) : Array Value → State → Outcome → State → Prop := va_Qi (fun r (_ : Unit) => r = r0) (fun _ t => va_P D vwCl w t.heap ∧ va_D A w) A
abbrev cQl (D : va_G) (r0 : Int64) (A : Nat → Prop) (w : va_W) : Array Value → State → Outcome → State → Prop := va_Ql (fun r (_ : Unit) => r = r0) (fun _ t => va_P D vwCl w t.heap ∧ va_D A w) A
abbrev cQv (D : va_G) (A : Nat → Prop) (w : va_W) : Array Value → State → Outcome → State → Prop := va_Qv (fun (_ : Unit) => True) (fun _ t => va_P D vwCl w t.heap ∧ va_D A w) A
def CtI (l : Launch) (y : MethodName) (ws : List Cond) (rm : Room) (D : va_G) (T : List (ClassId × FieldType)) (av : List Value) (w w' : va_W) (r0 : Int32) : Prop := ∀ sz : Nat, Met l y ws rm (cPre D T av w sz) (cQi D r0 (va_A w sz) w') 0 0 (va_A w sz)
def CtL (l : Launch) (y : MethodName) (ws : List Cond) (rm : Room) (D : va_G) (T : List (ClassId × FieldType)) (av : List Value) (w w' : va_W) (r0 : Int64) : Prop := ∀ sz : Nat, Met l y ws rm (cPre D T av w sz) (cQl D r0 (va_A w sz) w') 0 0 (va_A w sz)
def CtV (l : Launch) (y : MethodName) (ws : List Cond) (rm : Room) (D : va_G) (T : List (ClassId × FieldType)) (av : List Value) (w w' : va_W) : Prop := ∀ sz : Nat, Met l y ws rm (cPre D T av w sz) (cQv D (va_A w sz) w') 0 0 (va_A w sz)
theorem cPre_blind {D : va_G} {T : List (ClassId × FieldType)} {av : List Value} {w : va_W} {sz : Nat} : FrameBlind (cPre D T av w sz) := by
  intro a U g mk q
  obtain ⟨q0, q1, qP, ⟨qK, qN⟩, qD⟩ := q
  exact ⟨q0, q1, qP, ⟨va_K.moved (u := U) (U := U.calling g mk a) (Vm.Alike.refl U.vm) qK, nl.same (u := U) (U := U.calling g mk a) rfl qN⟩, qD⟩
def cx (p : Program) (s : State) (m : MethodId) (meth : Method) (c : Code) (cc : ByteArray) (maxL : Nat) (ret : Option FieldType) (own : String) (Ts : List Cond) (args : Array Value) : Prop :=
  p.tables.exec = Jvm.exec ∧ c.code = cc ∧ meth.sig.returnType = ret ∧ c.maxLocals = maxL ∧ s.vm.findClass own = some m.cls ∧ (∀ w ∈ Ts, w.before args s = true) ∧ meth.locks = false
theorem fm_of {α : Type} (f : Nat → Option α) : ∀ (is : List Nat) (w : List α), is.map f = w.map some → is.filterMap f = w
  | [], [], _ => rfl
  | [], _ :: _, h => by cases h
  | _ :: _, [], h => by cases h
  | i :: is, x :: w, h => by
    rw [List.map_cons, List.map_cons] at h
    obtain ⟨h1, h2⟩ := List.cons.inj h
    rw [List.filterMap_cons, h1, fm_of f is w h2]

theorem CtI.make {l : Launch} {y : MethodName} {ws ws' : List Cond} {rm : Room} {D : va_G} {T : List (ClassId × FieldType)} {av : List Value} {w w' : va_W} {r0 : Int32} {cc : ByteArray} {maxL : Nat} {ty : FieldType} (hy : plainName y.cls = true) (hw : ws = Cond.code y cc maxL (some ty) :: ws') (hlen : (lg_sl av).length ≤ maxL)
    (body : ∀ (p : Program) (e : Env) (s : State) (m : MethodId) (below : List Frame) (meth : Method) (c : Code) (A : Nat → Prop) (ls : Array Slot), cx p s m meth c cc maxL (some ty) y.cls ws av.toArray → kn D T s → (∀ q : Nat, s.heap.size ≤ q → A q) → va_P D vwCl w s.heap → va_D A w → lv_has ls maxL (lv_args 0 av) →
      W p l e rm s m av.toArray below meth c s.heap [] 0 0 (MQ below (cQi D r0 A w') av.toArray s 0 0 A) (F0 m 0 ls [])) : CtI l y ws rm D T av w w' r0 := by
  intro sz
  refine Met.ofW (cc := cc) (maxL := maxL) (ret := (some ty)) hy hw ?_
  intro p e s m args below meth c s₁ B hml hv
  obtain ⟨rfl, hsz, hP, hN, hD0⟩ := hv
  subst hsz
  rw [lg_entry_eq]
  exact body p e s m below meth c (va_A w s.heap.size) _ ⟨B.exec, B.bytes, B.returns, hml, findClass_of_methodNamed B.named, atoms_spec (ws := ws) B.pre, B.notSynchronized⟩ hN (fun q h => Or.inr h) hP (hD0.self (sz := s.heap.size)) (lv_entry av hlen)
theorem CtL.make {l : Launch} {y : MethodName} {ws ws' : List Cond} {rm : Room} {D : va_G} {T : List (ClassId × FieldType)} {av : List Value} {w w' : va_W} {r0 : Int64} {cc : ByteArray} {maxL : Nat} {ty : FieldType} (hy : plainName y.cls = true) (hw : ws = Cond.code y cc maxL (some ty) :: ws') (hlen : (lg_sl av).length ≤ maxL)
    (body : ∀ (p : Program) (e : Env) (s : State) (m : MethodId) (below : List Frame) (meth : Method) (c : Code) (A : Nat → Prop) (ls : Array Slot), cx p s m meth c cc maxL (some ty) y.cls ws av.toArray → kn D T s → (∀ q : Nat, s.heap.size ≤ q → A q) → va_P D vwCl w s.heap → va_D A w → lv_has ls maxL (lv_args 0 av) →
      W p l e rm s m av.toArray below meth c s.heap [] 0 0 (MQ below (cQl D r0 A w') av.toArray s 0 0 A) (F0 m 0 ls [])) : CtL l y ws rm D T av w w' r0 := by
  intro sz
  refine Met.ofW (cc := cc) (maxL := maxL) (ret := (some ty)) hy hw ?_
  intro p e s m args below meth c s₁ B hml hv
  obtain ⟨rfl, hsz, hP, hN, hD0⟩ := hv
  subst hsz
  rw [lg_entry_eq]
  exact body p e s m below meth c (va_A w s.heap.size) _ ⟨B.exec, B.bytes, B.returns, hml, findClass_of_methodNamed B.named, atoms_spec (ws := ws) B.pre, B.notSynchronized⟩ hN (fun q h => Or.inr h) hP (hD0.self (sz := s.heap.size)) (lv_entry av hlen)
theorem CtV.make {l : Launch} {y : MethodName} {ws ws' : List Cond} {rm : Room} {D : va_G} {T : List (ClassId × FieldType)} {av : List Value} {w w' : va_W}  {cc : ByteArray} {maxL : Nat}  (hy : plainName y.cls = true) (hw : ws = Cond.code y cc maxL none :: ws') (hlen : (lg_sl av).length ≤ maxL)
    (body : ∀ (p : Program) (e : Env) (s : State) (m : MethodId) (below : List Frame) (meth : Method) (c : Code) (A : Nat → Prop) (ls : Array Slot), cx p s m meth c cc maxL none y.cls ws av.toArray → kn D T s → (∀ q : Nat, s.heap.size ≤ q → A q) → va_P D vwCl w s.heap → va_D A w → lv_has ls maxL (lv_args 0 av) →
      W p l e rm s m av.toArray below meth c s.heap [] 0 0 (MQ below (cQv D A w') av.toArray s 0 0 A) (F0 m 0 ls [])) : CtV l y ws rm D T av w w' := by
  intro sz
  refine Met.ofW (cc := cc) (maxL := maxL) (ret := none) hy hw ?_
  intro p e s m args below meth c s₁ B hml hv
  obtain ⟨rfl, hsz, hP, hN, hD0⟩ := hv
  subst hsz
  rw [lg_entry_eq]
  exact body p e s m below meth c (va_A w s.heap.size) _ ⟨B.exec, B.bytes, B.returns, hml, findClass_of_methodNamed B.named, atoms_spec (ws := ws) B.pre, B.notSynchronized⟩ hN (fun q h => Or.inr h) hP (hD0.self (sz := s.heap.size)) (lv_entry av hlen)
section BA
variable {p : Program} {l : Launch} {e : Env} {R : Room} {s : State} {m : MethodId} {args : Array Value} {below : List Frame} {meth : Method} {c : Code} {H : Heap} {locs : List Loc} {cells slots : Nat} {Q : State → Prop} {cc : ByteArray} {pc : Nat} {ls : Array Slot} {rest st0 : List Value} {a : Array Value} {A : Nat → Prop} {D : va_G} {T : List (ClassId × FieldType)} {ws0 wc wr w1 wo : va_W}
theorem kn.warm {U : State} (hW : s.WarmedH U.vm) (h : kn D T s) : kn D T U := ⟨va_K.moved hW.alike h.1, nl.warm hW h.2⟩
theorem pre_ok {av : List Value} (hP : va_P D vwCl ws0 H) (hD : va_D A ws0) (hN : kn D T s) (isC : List Nat) (hC : isC.map (fun i => ws0[i]?) = wc.map some) (hCn : va_nd isC = true) : ∀ U : State, U.heap = H → s.WarmedH U.vm → cPre D T av wc H.size av.toArray U := by
  intro U hU hW
  refine ⟨rfl, by rw [hU], ?_, hN.warm hW, (hD.sub isC hCn hC).weaken (fun _ _ _ _ => trivial)⟩
  rw [hU]
  exact hP.sub isC (fm_of _ _ _ hC)

theorem caI {r0 : Int32} (hr : va_Run p l e R s m args below meth c H locs cells slots 0 0 (F0 m pc ls st0) rest (cQi D r0 (va_A wc H.size) w1 a) (va_A wc H.size)) (hP : va_P D vwCl ws0 H) (hD : va_D A ws0) (hS : va_S A s.heap H locs) (hA : ∀ q : Nat, s.heap.size ≤ q → A q) (isC isR pm : List Nat) (hC : isC.map (fun i => ws0[i]?) = wc.map some) (hCn : va_nd isC = true) (hR : isR.map (fun i => ws0[i]?) = wr.map some) (hn : va_nd isR = true) (hdis : ∀ i ∈ isR, i ∉ isC) (hm : pm.map (fun i => (wr ++ w1)[i]?) = wo.map some) (hmn : va_nd pm = true)
    (kk : ∀ (H1 : Heap) (locs1 : List Loc), va_P D vwCl wo H1 → va_D A wo → va_S A s.heap H1 locs1 → W p l e R s m args below meth c H1 locs1 cells slots Q (F0 m (pc + 3) ls (.int r0 :: rest))) : W p l e R s m args below meth c H locs cells slots Q (F0 m pc ls st0) := by
  have hF := va_free hD hS hA isC hC
  refine va_calli hr hS (fun q _ h => hF q h) hF (fun r u t H1 locs1 ht hvm hw hB hz hk hS1 => ?_)
  subst hw
  obtain ⟨hP1, hD1⟩ := hB
  rw [ht] at hP1
  obtain ⟨hP2, hD2⟩ := va_join hP hD isC isR hC hR hn hdis hk hF hP1 hD1
  exact kk H1 locs1 (hP2.sub pm (fm_of _ _ _ hm)) (hD2.sub pm hmn hm) hS1
theorem caL {r0 : Int64} (hr : va_Run p l e R s m args below meth c H locs cells slots 0 0 (F0 m pc ls st0) rest (cQl D r0 (va_A wc H.size) w1 a) (va_A wc H.size)) (hP : va_P D vwCl ws0 H) (hD : va_D A ws0) (hS : va_S A s.heap H locs) (hA : ∀ q : Nat, s.heap.size ≤ q → A q) (isC isR pm : List Nat) (hC : isC.map (fun i => ws0[i]?) = wc.map some) (hCn : va_nd isC = true) (hR : isR.map (fun i => ws0[i]?) = wr.map some) (hn : va_nd isR = true) (hdis : ∀ i ∈ isR, i ∉ isC) (hm : pm.map (fun i => (wr ++ w1)[i]?) = wo.map some) (hmn : va_nd pm = true)
    (kk : ∀ (H1 : Heap) (locs1 : List Loc), va_P D vwCl wo H1 → va_D A wo → va_S A s.heap H1 locs1 → W p l e R s m args below meth c H1 locs1 cells slots Q (F0 m (pc + 3) ls (.long r0 :: rest))) : W p l e R s m args below meth c H locs cells slots Q (F0 m pc ls st0) := by
  have hF := va_free hD hS hA isC hC
  refine va_calll hr hS (fun q _ h => hF q h) hF (fun r u t H1 locs1 ht hvm hw hB hz hk hS1 => ?_)
  subst hw
  obtain ⟨hP1, hD1⟩ := hB
  rw [ht] at hP1
  obtain ⟨hP2, hD2⟩ := va_join hP hD isC isR hC hR hn hdis hk hF hP1 hD1
  exact kk H1 locs1 (hP2.sub pm (fm_of _ _ _ hm)) (hD2.sub pm hmn hm) hS1
theorem caV  (hr : va_Run p l e R s m args below meth c H locs cells slots 0 0 (F0 m pc ls st0) rest (cQv D (va_A wc H.size) w1 a) (va_A wc H.size)) (hP : va_P D vwCl ws0 H) (hD : va_D A ws0) (hS : va_S A s.heap H locs) (hA : ∀ q : Nat, s.heap.size ≤ q → A q) (isC isR pm : List Nat) (hC : isC.map (fun i => ws0[i]?) = wc.map some) (hCn : va_nd isC = true) (hR : isR.map (fun i => ws0[i]?) = wr.map some) (hn : va_nd isR = true) (hdis : ∀ i ∈ isR, i ∉ isC) (hm : pm.map (fun i => (wr ++ w1)[i]?) = wo.map some) (hmn : va_nd pm = true)
    (kk : ∀ (H1 : Heap) (locs1 : List Loc), va_P D vwCl wo H1 → va_D A wo → va_S A s.heap H1 locs1 → W p l e R s m args below meth c H1 locs1 cells slots Q (F0 m (pc + 3) ls (rest))) : W p l e R s m args below meth c H locs cells slots Q (F0 m pc ls st0) := by
  have hF := va_free hD hS hA isC hC
  refine va_callv hr hS (fun q _ h => hF q h) hF (fun u t H1 locs1 ht hvm hw hB hz hk hS1 => ?_)
  
  obtain ⟨hP1, hD1⟩ := hB
  rw [ht] at hP1
  obtain ⟨hP2, hD2⟩ := va_join hP hD isC isR hC hR hn hdis hk hF hP1 hD1
  exact kk H1 locs1 (hP2.sub pm (fm_of _ _ _ hm)) (hD2.sub pm hmn hm) hS1
variable {Ts ws : List Cond} {bytes : ByteArray} {nL maxL index n : Nat} {own C host : String} {y : MethodName} {ret : Option FieldType} {rm : Room} {b : Addr} {As : List Value}
theorem caVI {r0 : Int32} (S : CallFix p m c cc nL s args Ts own) (hN : kn D T s) (hP : va_P D vwCl ws0 H) (hD : va_D A ws0) (hS : va_S A s.heap H locs) (hA : ∀ q : Nat, s.heap.size ≤ q → A q) (hM : CtI l y ws rm D T (.ref b :: As) wc w1 r0) (cw : CallW R s args own C index y bytes maxL ret ws rm 0 0 n) (q0 ci : Nat) {fs : List Value} {T0 : u_T} {N0 : Nat} (hq : ws0[q0]? = some (b, .inr (ci, fs))) (hci : vwCl[ci]? = some (C, T0, N0)) (isC isR pm : List Nat) (hC : isC.map (fun i => ws0[i]?) = wc.map some) (hCn : va_nd isC = true) (hR : isR.map (fun i => ws0[i]?) = wr.map some) (hn : va_nd isR = true) (hdis : ∀ i ∈ isR, i ∉ isC) (hm : pm.map (fun i => (wr ++ w1)[i]?) = wo.map some) (hmn : va_nd pm = true) (hlen : As.length = n) (hsize : ls.size = nL) (hst : st0 = As.reverse ++ .ref b :: rest) (hW : (rest.map fun v => v.category).sum ≤ 8) (hdg : decode cc pc = .ok (.invokevirtual index, 3)) (hcs : cells ≤ R.cells ∧ slots ≤ R.slots)
    (kk : ∀ (H1 : Heap) (locs1 : List Loc), va_P D vwCl wo H1 → va_D A wo → va_S A s.heap H1 locs1 → W p l e R s m args below meth c H1 locs1 cells slots Q (F0 m (pc + 3) ls (.int r0 :: rest))) : W p l e R s m args below meth c H locs cells slots Q (F0 m pc ls st0) :=
  caI (va_runV S (hM H.size) cw ⟨cPre_blind, va_recv hN.1 hP hci hq, pre_ok hP hD hN isC hC hCn⟩ rfl hlen hsize hst (lv_room hW) hdg hcs) hP hD hS hA isC isR pm hC hCn hR hn hdis hm hmn kk
theorem caSI {r0 : Int32} (S : CallFix p m c cc nL s args Ts own) (hN : kn D T s) (hP : va_P D vwCl ws0 H) (hD : va_D A ws0) (hS : va_S A s.heap H locs) (hA : ∀ q : Nat, s.heap.size ≤ q → A q) (hM : CtI l y ws rm D T As wc w1 r0) (cw : CallB R s args own index y bytes maxL ret ws rm 0 0 n ∧ (Cond.static y).before args s = true) (isC isR pm : List Nat) (hC : isC.map (fun i => ws0[i]?) = wc.map some) (hCn : va_nd isC = true) (hR : isR.map (fun i => ws0[i]?) = wr.map some) (hn : va_nd isR = true) (hdis : ∀ i ∈ isR, i ∉ isC) (hm : pm.map (fun i => (wr ++ w1)[i]?) = wo.map some) (hmn : va_nd pm = true) (hlen : As.length = n) (hsize : ls.size = nL) (hst : st0 = As.reverse ++ rest) (hW : (rest.map fun v => v.category).sum ≤ 8) (hdg : decode cc pc = .ok (.invokestatic index, 3)) (hcs : cells ≤ R.cells ∧ slots ≤ R.slots)
    (kk : ∀ (H1 : Heap) (locs1 : List Loc), va_P D vwCl wo H1 → va_D A wo → va_S A s.heap H1 locs1 → W p l e R s m args below meth c H1 locs1 cells slots Q (F0 m (pc + 3) ls (.int r0 :: rest))) : W p l e R s m args below meth c H locs cells slots Q (F0 m pc ls st0) :=
  caI (va_runS S (hM H.size) cw ⟨cPre_blind, pre_ok hP hD hN isC hC hCn⟩ rfl hlen hsize hst (lv_room hW) hdg hcs) hP hD hS hA isC isR pm hC hCn hR hn hdis hm hmn kk
theorem caNI {r0 : Int32} (S : CallFix p m c cc nL s args Ts own) (hN : kn D T s) (hP : va_P D vwCl ws0 H) (hD : va_D A ws0) (hS : va_S A s.heap H locs) (hA : ∀ q : Nat, s.heap.size ≤ q → A q) (hM : CtI l y ws rm D T As wc w1 r0) (cw : va_CN R s args own index y host bytes maxL ret ws rm 0 0 n ∧ (Cond.static y).before args s = true ∧ True) (isC isR pm : List Nat) (hC : isC.map (fun i => ws0[i]?) = wc.map some) (hCn : va_nd isC = true) (hR : isR.map (fun i => ws0[i]?) = wr.map some) (hn : va_nd isR = true) (hdis : ∀ i ∈ isR, i ∉ isC) (hm : pm.map (fun i => (wr ++ w1)[i]?) = wo.map some) (hmn : va_nd pm = true) (hlen : As.length = n) (hsize : ls.size = nL) (hst : st0 = As.reverse ++ rest) (hW : (rest.map fun v => v.category).sum ≤ 8) (hdg : decode cc pc = .ok (.invokestatic index, 3)) (hcs : cells ≤ R.cells ∧ slots ≤ R.slots)
    (kk : ∀ (H1 : Heap) (locs1 : List Loc), va_P D vwCl wo H1 → va_D A wo → va_S A s.heap H1 locs1 → W p l e R s m args below meth c H1 locs1 cells slots Q (F0 m (pc + 3) ls (.int r0 :: rest))) : W p l e R s m args below meth c H locs cells slots Q (F0 m pc ls st0) :=
  caI (va_runSN S (hM H.size) cw ⟨cPre_blind, pre_ok hP hD hN isC hC hCn⟩ rfl hlen hsize hst (lv_room hW) hdg hcs) hP hD hS hA isC isR pm hC hCn hR hn hdis hm hmn kk
theorem caVL {r0 : Int64} (S : CallFix p m c cc nL s args Ts own) (hN : kn D T s) (hP : va_P D vwCl ws0 H) (hD : va_D A ws0) (hS : va_S A s.heap H locs) (hA : ∀ q : Nat, s.heap.size ≤ q → A q) (hM : CtL l y ws rm D T (.ref b :: As) wc w1 r0) (cw : CallW R s args own C index y bytes maxL ret ws rm 0 0 n) (q0 ci : Nat) {fs : List Value} {T0 : u_T} {N0 : Nat} (hq : ws0[q0]? = some (b, .inr (ci, fs))) (hci : vwCl[ci]? = some (C, T0, N0)) (isC isR pm : List Nat) (hC : isC.map (fun i => ws0[i]?) = wc.map some) (hCn : va_nd isC = true) (hR : isR.map (fun i => ws0[i]?) = wr.map some) (hn : va_nd isR = true) (hdis : ∀ i ∈ isR, i ∉ isC) (hm : pm.map (fun i => (wr ++ w1)[i]?) = wo.map some) (hmn : va_nd pm = true) (hlen : As.length = n) (hsize : ls.size = nL) (hst : st0 = As.reverse ++ .ref b :: rest) (hW : (rest.map fun v => v.category).sum ≤ 8) (hdg : decode cc pc = .ok (.invokevirtual index, 3)) (hcs : cells ≤ R.cells ∧ slots ≤ R.slots)
    (kk : ∀ (H1 : Heap) (locs1 : List Loc), va_P D vwCl wo H1 → va_D A wo → va_S A s.heap H1 locs1 → W p l e R s m args below meth c H1 locs1 cells slots Q (F0 m (pc + 3) ls (.long r0 :: rest))) : W p l e R s m args below meth c H locs cells slots Q (F0 m pc ls st0) :=
  caL (va_runV S (hM H.size) cw ⟨cPre_blind, va_recv hN.1 hP hci hq, pre_ok hP hD hN isC hC hCn⟩ rfl hlen hsize hst (lv_room hW) hdg hcs) hP hD hS hA isC isR pm hC hCn hR hn hdis hm hmn kk
theorem caSL {r0 : Int64} (S : CallFix p m c cc nL s args Ts own) (hN : kn D T s) (hP : va_P D vwCl ws0 H) (hD : va_D A ws0) (hS : va_S A s.heap H locs) (hA : ∀ q : Nat, s.heap.size ≤ q → A q) (hM : CtL l y ws rm D T As wc w1 r0) (cw : CallB R s args own index y bytes maxL ret ws rm 0 0 n ∧ (Cond.static y).before args s = true) (isC isR pm : List Nat) (hC : isC.map (fun i => ws0[i]?) = wc.map some) (hCn : va_nd isC = true) (hR : isR.map (fun i => ws0[i]?) = wr.map some) (hn : va_nd isR = true) (hdis : ∀ i ∈ isR, i ∉ isC) (hm : pm.map (fun i => (wr ++ w1)[i]?) = wo.map some) (hmn : va_nd pm = true) (hlen : As.length = n) (hsize : ls.size = nL) (hst : st0 = As.reverse ++ rest) (hW : (rest.map fun v => v.category).sum ≤ 8) (hdg : decode cc pc = .ok (.invokestatic index, 3)) (hcs : cells ≤ R.cells ∧ slots ≤ R.slots)
    (kk : ∀ (H1 : Heap) (locs1 : List Loc), va_P D vwCl wo H1 → va_D A wo → va_S A s.heap H1 locs1 → W p l e R s m args below meth c H1 locs1 cells slots Q (F0 m (pc + 3) ls (.long r0 :: rest))) : W p l e R s m args below meth c H locs cells slots Q (F0 m pc ls st0) :=
  caL (va_runS S (hM H.size) cw ⟨cPre_blind, pre_ok hP hD hN isC hC hCn⟩ rfl hlen hsize hst (lv_room hW) hdg hcs) hP hD hS hA isC isR pm hC hCn hR hn hdis hm hmn kk
theorem caNL {r0 : Int64} (S : CallFix p m c cc nL s args Ts own) (hN : kn D T s) (hP : va_P D vwCl ws0 H) (hD : va_D A ws0) (hS : va_S A s.heap H locs) (hA : ∀ q : Nat, s.heap.size ≤ q → A q) (hM : CtL l y ws rm D T As wc w1 r0) (cw : va_CN R s args own index y host bytes maxL ret ws rm 0 0 n ∧ (Cond.static y).before args s = true ∧ True) (isC isR pm : List Nat) (hC : isC.map (fun i => ws0[i]?) = wc.map some) (hCn : va_nd isC = true) (hR : isR.map (fun i => ws0[i]?) = wr.map some) (hn : va_nd isR = true) (hdis : ∀ i ∈ isR, i ∉ isC) (hm : pm.map (fun i => (wr ++ w1)[i]?) = wo.map some) (hmn : va_nd pm = true) (hlen : As.length = n) (hsize : ls.size = nL) (hst : st0 = As.reverse ++ rest) (hW : (rest.map fun v => v.category).sum ≤ 8) (hdg : decode cc pc = .ok (.invokestatic index, 3)) (hcs : cells ≤ R.cells ∧ slots ≤ R.slots)
    (kk : ∀ (H1 : Heap) (locs1 : List Loc), va_P D vwCl wo H1 → va_D A wo → va_S A s.heap H1 locs1 → W p l e R s m args below meth c H1 locs1 cells slots Q (F0 m (pc + 3) ls (.long r0 :: rest))) : W p l e R s m args below meth c H locs cells slots Q (F0 m pc ls st0) :=
  caL (va_runSN S (hM H.size) cw ⟨cPre_blind, pre_ok hP hD hN isC hC hCn⟩ rfl hlen hsize hst (lv_room hW) hdg hcs) hP hD hS hA isC isR pm hC hCn hR hn hdis hm hmn kk
theorem caVV  (S : CallFix p m c cc nL s args Ts own) (hN : kn D T s) (hP : va_P D vwCl ws0 H) (hD : va_D A ws0) (hS : va_S A s.heap H locs) (hA : ∀ q : Nat, s.heap.size ≤ q → A q) (hM : CtV l y ws rm D T (.ref b :: As) wc w1) (cw : CallW R s args own C index y bytes maxL ret ws rm 0 0 n) (q0 ci : Nat) {fs : List Value} {T0 : u_T} {N0 : Nat} (hq : ws0[q0]? = some (b, .inr (ci, fs))) (hci : vwCl[ci]? = some (C, T0, N0)) (isC isR pm : List Nat) (hC : isC.map (fun i => ws0[i]?) = wc.map some) (hCn : va_nd isC = true) (hR : isR.map (fun i => ws0[i]?) = wr.map some) (hn : va_nd isR = true) (hdis : ∀ i ∈ isR, i ∉ isC) (hm : pm.map (fun i => (wr ++ w1)[i]?) = wo.map some) (hmn : va_nd pm = true) (hlen : As.length = n) (hsize : ls.size = nL) (hst : st0 = As.reverse ++ .ref b :: rest) (hW : (rest.map fun v => v.category).sum ≤ 8) (hdg : decode cc pc = .ok (.invokevirtual index, 3)) (hcs : cells ≤ R.cells ∧ slots ≤ R.slots)
    (kk : ∀ (H1 : Heap) (locs1 : List Loc), va_P D vwCl wo H1 → va_D A wo → va_S A s.heap H1 locs1 → W p l e R s m args below meth c H1 locs1 cells slots Q (F0 m (pc + 3) ls (rest))) : W p l e R s m args below meth c H locs cells slots Q (F0 m pc ls st0) :=
  caV (va_runV S (hM H.size) cw ⟨cPre_blind, va_recv hN.1 hP hci hq, pre_ok hP hD hN isC hC hCn⟩ rfl hlen hsize hst (lv_room hW) hdg hcs) hP hD hS hA isC isR pm hC hCn hR hn hdis hm hmn kk
theorem caSV  (S : CallFix p m c cc nL s args Ts own) (hN : kn D T s) (hP : va_P D vwCl ws0 H) (hD : va_D A ws0) (hS : va_S A s.heap H locs) (hA : ∀ q : Nat, s.heap.size ≤ q → A q) (hM : CtV l y ws rm D T As wc w1) (cw : CallB R s args own index y bytes maxL ret ws rm 0 0 n ∧ (Cond.static y).before args s = true) (isC isR pm : List Nat) (hC : isC.map (fun i => ws0[i]?) = wc.map some) (hCn : va_nd isC = true) (hR : isR.map (fun i => ws0[i]?) = wr.map some) (hn : va_nd isR = true) (hdis : ∀ i ∈ isR, i ∉ isC) (hm : pm.map (fun i => (wr ++ w1)[i]?) = wo.map some) (hmn : va_nd pm = true) (hlen : As.length = n) (hsize : ls.size = nL) (hst : st0 = As.reverse ++ rest) (hW : (rest.map fun v => v.category).sum ≤ 8) (hdg : decode cc pc = .ok (.invokestatic index, 3)) (hcs : cells ≤ R.cells ∧ slots ≤ R.slots)
    (kk : ∀ (H1 : Heap) (locs1 : List Loc), va_P D vwCl wo H1 → va_D A wo → va_S A s.heap H1 locs1 → W p l e R s m args below meth c H1 locs1 cells slots Q (F0 m (pc + 3) ls (rest))) : W p l e R s m args below meth c H locs cells slots Q (F0 m pc ls st0) :=
  caV (va_runS S (hM H.size) cw ⟨cPre_blind, pre_ok hP hD hN isC hC hCn⟩ rfl hlen hsize hst (lv_room hW) hdg hcs) hP hD hS hA isC isR pm hC hCn hR hn hdis hm hmn kk
theorem caNV  (S : CallFix p m c cc nL s args Ts own) (hN : kn D T s) (hP : va_P D vwCl ws0 H) (hD : va_D A ws0) (hS : va_S A s.heap H locs) (hA : ∀ q : Nat, s.heap.size ≤ q → A q) (hM : CtV l y ws rm D T As wc w1) (cw : va_CN R s args own index y host bytes maxL ret ws rm 0 0 n ∧ (Cond.static y).before args s = true ∧ True) (isC isR pm : List Nat) (hC : isC.map (fun i => ws0[i]?) = wc.map some) (hCn : va_nd isC = true) (hR : isR.map (fun i => ws0[i]?) = wr.map some) (hn : va_nd isR = true) (hdis : ∀ i ∈ isR, i ∉ isC) (hm : pm.map (fun i => (wr ++ w1)[i]?) = wo.map some) (hmn : va_nd pm = true) (hlen : As.length = n) (hsize : ls.size = nL) (hst : st0 = As.reverse ++ rest) (hW : (rest.map fun v => v.category).sum ≤ 8) (hdg : decode cc pc = .ok (.invokestatic index, 3)) (hcs : cells ≤ R.cells ∧ slots ≤ R.slots)
    (kk : ∀ (H1 : Heap) (locs1 : List Loc), va_P D vwCl wo H1 → va_D A wo → va_S A s.heap H1 locs1 → W p l e R s m args below meth c H1 locs1 cells slots Q (F0 m (pc + 3) ls (rest))) : W p l e R s m args below meth c H locs cells slots Q (F0 m pc ls st0) :=
  caV (va_runSN S (hM H.size) cw ⟨cPre_blind, pre_ok hP hD hN isC hC hCn⟩ rfl hlen hsize hst (lv_room hW) hdg hcs) hP hD hS hA isC isR pm hC hCn hR hn hdis hm hmn kk
theorem rtI {r0 : Int32} (hx : p.tables.exec = Jvm.exec) (hb : c.code = cc) (hr : meth.sig.returnType = some .int) (hlk : meth.locks = false) (hP : va_P D vwCl wo H) (hD : va_D A wo) (hS : va_S A s.heap H locs) (hd : decode cc pc = .ok (.ireturn, 1)) : W p l e R s m args below meth c H locs 0 0 (MQ below (cQi D r0 A wo) args s 0 0 A) (F0 m pc ls [.int r0]) :=
  W.iret (v := r0) hx hb hr (fun t ht _ => ⟨⟨r0, (), rfl, rfl, by rw [ht]; exact hP, hD⟩, hS.F ht⟩) hS.2.2 hd hlk
theorem rtZ {r0 : Int32} (hx : p.tables.exec = Jvm.exec) (hb : c.code = cc) (hr : meth.sig.returnType = some .boolean) (hlk : meth.locks = false) (hz : r0 = 0 ∨ r0 = 1) (hP : va_P D vwCl wo H) (hD : va_D A wo) (hS : va_S A s.heap H locs) (hd : decode cc pc = .ok (.ireturn, 1)) : W p l e R s m args below meth c H locs 0 0 (MQ below (cQi D r0 A wo) args s 0 0 A) (F0 m pc ls [.int r0]) :=
  W.zret (v := r0) hx hb hr (isz_nar hz) (fun t ht _ => ⟨⟨r0, (), rfl, rfl, by rw [ht]; exact hP, hD⟩, hS.F ht⟩) hS.2.2 hd hlk
theorem rtL {r0 : Int64} (hx : p.tables.exec = Jvm.exec) (hb : c.code = cc) (hr : meth.sig.returnType = some .long) (hlk : meth.locks = false) (hP : va_P D vwCl wo H) (hD : va_D A wo) (hS : va_S A s.heap H locs) (hd : decode cc pc = .ok (.lreturn, 1)) : W p l e R s m args below meth c H locs 0 0 (MQ below (cQl D r0 A wo) args s 0 0 A) (F0 m pc ls [.long r0]) :=
  W.lret (v := r0) hx hb hr (fun t ht _ => ⟨⟨r0, (), rfl, rfl, by rw [ht]; exact hP, hD⟩, hS.F ht⟩) hS.2.2 hd hlk
theorem rtV (hx : p.tables.exec = Jvm.exec) (hb : c.code = cc) (hr : meth.sig.returnType = none) (hlk : meth.locks = false) (hP : va_P D vwCl wo H) (hD : va_D A wo) (hS : va_S A s.heap H locs) (hd : decode cc pc = .ok (.return_, 1)) : W p l e R s m args below meth c H locs 0 0 (MQ below (cQv D A wo) args s 0 0 A) (F0 m pc ls []) :=
  W.vret hx hb hr (fun t ht _ => ⟨⟨(), rfl, trivial, by rw [ht]; exact hP, hD⟩, hS.F ht⟩) hS.2.2 hd hlk
end BA
