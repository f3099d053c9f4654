/-! the class's search of a pairing -/
def TK (a : Nat) (o : Nat → Nat) (tk : Int32) : Prop := ∃ T, T < 128 ∧ tk = nI T ∧ ∀ c, c < 7 → (T.testBit c = true ↔ ∃ i, i < a ∧ o i = c)
theorem tk_or : ∀ T, T < 128 → ∀ c, c < 7 → nI T ||| ((1 : Int32) <<< (nI c &&& 31)) = nI (T ||| 2 ^ c) ∧ T ||| 2 ^ c < 128 := by decide +kernel
theorem tk_and : ∀ T, T < 128 → ∀ c, c < 7 → nI T &&& (((1 : Int32) <<< (nI c &&& 31)) ^^^ (-1 : Int32)) = nI (T &&& (127 - 2 ^ c)) ∧ T &&& (127 - 2 ^ c) < 128 := by decide +kernel
theorem tk_bit : ∀ c, c < 7 → ∀ c', c' < 7 → (127 - 2 ^ c).testBit c' = decide (c' ≠ c) := by decide +kernel
theorem TK.add {a c : Nat} {o o' : Nat → Nat} {tk : Int32} (h : TK a o tk) (hc : c < 7) (ha : agr o' o a) (hac : o' a = c) : TK (a + 1) o' (tk ||| ((1 : Int32) <<< (nI c &&& 31))) := by
  obtain ⟨T, h1, rfl, h2⟩ := h
  obtain ⟨e1, e2⟩ := tk_or T h1 c hc
  refine ⟨T ||| 2 ^ c, e2, e1, fun c' hc' => ?_⟩
  rw [fb_bit_set, Bool.or_eq_true, h2 c' hc', decide_eq_true_iff]
  constructor
  · rintro (⟨i, i1, i2⟩ | z)
    · exact ⟨i, by omega, by rw [ha i i1]; exact i2⟩
    · exact ⟨a, by omega, by rw [hac, z]⟩
  · rintro ⟨i, i1, i2⟩
    by_cases e : i = a
    · rw [e, hac] at i2
      exact Or.inr i2.symm
    · exact Or.inl ⟨i, by omega, by rw [← ha i (by omega)]; exact i2⟩
theorem TK.sub {a c : Nat} {o o' : Nat → Nat} {tk : Int32} (h : TK (a + 1) o' tk) (hc : c < 7) (ha : agr o' o a) (hac : o' a = c) (hn : ∀ i, i < a → o i ≠ c) : TK a o (tk &&& (((1 : Int32) <<< (nI c &&& 31)) ^^^ (-1 : Int32))) := by
  obtain ⟨T, h1, rfl, h2⟩ := h
  obtain ⟨e1, e2⟩ := tk_and T h1 c hc
  refine ⟨T &&& (127 - 2 ^ c), e2, e1, fun c' hc' => ?_⟩
  rw [Nat.testBit_and, tk_bit c hc c' hc', Bool.and_eq_true, h2 c' hc', decide_eq_true_iff]
  constructor
  · rintro ⟨⟨i, i1, i2⟩, z⟩
    by_cases e : i = a
    · rw [e, hac] at i2
      exact absurd i2.symm z
    · exact ⟨i, by omega, by rw [← ha i (by omega)]; exact i2⟩
  · rintro ⟨i, i1, i2⟩
    exact ⟨⟨i, by omega, by rw [ha i i1]; exact i2⟩, fun z => hn i i1 (by rw [i2, z])⟩
def ST (as bs : Nat → Nat) (a : Nat) (o : Nat → Nat) (tk : Int32) (ch th bk us pu : Nat → Int32) : Prop := (∀ i, i < a → ch i = nI (o i)) ∧ TK a o tk ∧ US as a 0 us ∧ US (fun i => bs (o i)) a 0 pu ∧ TH as (fun i => bs (o i)) a 0 th bk
theorem partBack {as bs o o' : Nat → Nat} {n a m : Nat} (h7 : n ≤ 7) (ha : a < n) {fi se ch : Nat → Int32} (hf : ∀ i, i < n → fi i = nI (as i)) (hfa : ∀ i, i < n → as i < 41) (hs : ∀ i, i < n → se i = nI (bs i)) (hsb : ∀ i, i < n → bs i < 41) (ho : ∀ i, i ≤ a → o' i < n) (hch : ∀ i, i ≤ a → ch i = nI (o' i)) (hag : agr o' o a) (hn : ∀ i, i < a → o i ≠ o' a) (hm : m ≤ a + 1) {tk : Int32} (hK : TK (a + 1) o' tk) {th bk us pu : Nat → Int32} (hU : US as a m us) (hP : US (fun i => bs (o' i)) a m pu) (hT : TH as (fun i => bs (o' i)) a m th bk) :
    ∃ tk2 us2 pu2, fX2_part (nI a) (nI m) tk fi se ch us pu = some (tk2, us2, pu2) ∧ ST as bs a o tk2 ch th bk us2 pu2 := by
  have hoa := ho a (by omega)
  obtain ⟨us2, pu2, r, hU2, hP2⟩ := part24 h7 ha hf hfa hs hsb ho hch hm (tk &&& (((1 : Int32) <<< (nI (o' a) &&& 31)) ^^^ (-1 : Int32))) hU hP
  refine ⟨_, us2, pu2, ?_, ?_, hK.sub (by omega) hag rfl hn, hU2, hP2.cong0 (fun i hi => by rw [hag i hi]), hT.less.cong0 (fun i hi => by rw [hag i hi])⟩
  · unfold fX2_part
    simp only [lt_]
    rw [nI_clamp (by omega), gd_eq ⟨nI_pos (by omega), by omega⟩, hch a (by omega), r]
  · intro i hi
    rw [hch i (by omega), hag i hi]
theorem TH_all {f b : Nat → Nat} {a : Nat} {th bk : Nat → Int32} (h : TH f b a 0 th bk) {i j : Nat} (hi : i < a) (hj : j < a) : th (f i + f j) = nI (b i + b j) ∧ bk (b i + b j) = nI (f i + f j) := by
  rcases Nat.le_total j i with z | z
  · exact h i j (Or.inl ⟨hi, z⟩)
  · have := h j i (Or.inl ⟨hj, z⟩)
    rw [Nat.add_comm (f i), Nat.add_comm (b i)]
    exact this
theorem TH_vld {as bs o : Nat → Nat} {n : Nat} (hfa : ∀ i, i < n → as i < 41) (hsb : ∀ i, i < n → bs i < 41) (ho : ∀ i, i < n → o i < n) {th bk : Nat → Int32} (h : TH as (fun i => bs (o i)) n 0 th bk) : vld as bs o n := by
  intro i j k l hi hj hk hl
  have h1 := TH_all h hi hj
  have h2 := TH_all h hk hl
  have a1 := hfa i hi
  have a2 := hfa j hj
  have a3 := hfa k hk
  have a4 := hfa l hl
  have b1 := hsb _ (ho i hi)
  have b2 := hsb _ (ho j hj)
  have b3 := hsb _ (ho k hk)
  have b4 := hsb _ (ho l hl)
  constructor
  · intro e
    have e1 := h1.1
    rw [e, h2.1] at e1
    exact ((nI_eq (by omega) (by omega)).mp e1).symm
  · intro e
    have e1 : bk (bs (o i) + bs (o j)) = nI (as i + as j) := h1.2
    have e2 : bk (bs (o k) + bs (o l)) = nI (as k + as l) := h2.2
    rw [e, e2] at e1
    exact ((nI_eq (by omega) (by omega)).mp e1).symm
/-- what the search from place a on answers -/
def PA (as bs : Nat → Nat) (n a : Nat) (o : Nat → Nat) (t : Int32 × Int32 × (Nat → Int32) × (Nat → Int32) × (Nat → Int32) × (Nat → Int32) × (Nat → Int32)) : Prop :=
  (t.1 = 1 ∧ ∃ w, (∀ i, i < n → t.2.2.1 i = nI (w i)) ∧ isP w n ∧ vld as bs w n ∧ agr w o a ∧ ∀ w', isP w' n → vld as bs w' n → agr w' o a → ¬ lxl w' w n) ∨ (t.1 = 0 ∧ (∀ w', isP w' n → vld as bs w' n → ¬ agr w' o a) ∧ ST as bs a o t.2.1 t.2.2.1 t.2.2.2.1 t.2.2.2.2.1 t.2.2.2.2.2.1 t.2.2.2.2.2.2)
theorem pairFrom_eq {as bs : Nat → Nat} {n : Nat} (h7 : n ≤ 7) {fi se : Nat → Int32} (hf : ∀ i, i < n → fi i = nI (as i)) (hfa : ∀ i, i < n → as i < 41) (hs : ∀ i, i < n → se i = nI (bs i)) (hsb : ∀ i, i < n → bs i < 41) :
    ∀ (d a : Nat) (o : Nat → Nat) (tk : Int32) (ch th bk us pu : Nat → Int32), a ≤ n → n < d + a → (∀ i, i < a → o i < n) → (∀ i j, i < a → j < a → o i = o j → i = j) → ST as bs a o tk ch th bk us pu → ∃ t, fX2_pairFrom d (nI a) (nI n) tk fi se ch th bk us pu = some t ∧ PA as bs n a o t := by
  intro d
  induction d with
  | zero => intro a o tk ch th bk us pu h1 h2; omega
  | succ d ih =>
    intro a o tk ch th bk us pu h1 h2 hol hoi hST
    show ∃ t, fX2_pairFrom_s (fX2_pairFrom d) (nI a) (nI n) tk fi se ch th bk us pu = some t ∧ _
    unfold fX2_pairFrom_s
    by_cases han : a = n
    · subst han
      rw [brT (Int32.le_refl _), gd_eq (by decide)]
      refine ⟨_, rfl, Or.inl ⟨rfl, o, hST.1, ⟨hol, hoi⟩, TH_vld hfa hsb hol hST.2.2.2.2, fun _ _ => rfl, fun w' _ _ hag => lxl_agr hag⟩⟩
    · have ha : a < n := by omega
      rw [brF (nI_ge ha (by omega)), brT (show nI a < (7 : Int32) from nI_lt (b := 7) (by omega) (by omega))]
      refine run_inv0 (step := sX2_pairFrom_18 (fX2_pairFrom d) (nI a) (nI n) fi se) n (fun c q => q.1 = nI c ∧ ST as bs a o q.2.1 q.2.2.1 q.2.2.2.1 q.2.2.2.2.1 q.2.2.2.2.2.1 q.2.2.2.2.2.2 ∧ ∀ w', isP w' n → vld as bs w' n → agr w' o a → c ≤ w' a) (fun t => PA as bs n a o t) ?_ ?_ ⟨rfl, hST, fun _ _ _ _ => Nat.zero_le _⟩
      · rintro c ⟨v, tk, ch, th, bk, us, pu⟩ hc ⟨rfl, hST, hmin⟩
        have hST : ST as bs a o tk ch th bk us pu := hST
        show (∃ q2, bX2_pairFrom_18 (fX2_pairFrom d) (nI a) (nI n) fi se (nI c) tk ch th bk us pu = _ ∧ _) ∨ (∃ t, bX2_pairFrom_18 (fX2_pairFrom d) (nI a) (nI n) fi se (nI c) tk ch th bk us pu = _ ∧ _)
        obtain ⟨hch, hK, hU, hP, hT⟩ := hST
        have hK' := hK
        obtain ⟨T, T1, T2, T3⟩ := hK'
        have hbit : ((tk.toUInt32 >>> ((nI c).toUInt32 &&& Int32.toUInt32 31)).toInt32 &&& (1 : Int32)) = nI (if T.testBit c then 1 else 0) := by
          rw [T2]; exact ub (by omega) (by omega)
        unfold bX2_pairFrom_18
        rw [brF (nI_ge hc (by omega)), hbit]
        cases hTb : T.testBit c with
        | true =>
          left
          rw [brF (by decide)]
          unfold bX2_pairFrom_67
          simp only [lt_]
          rw [nI_1]
          refine ⟨_, rfl, rfl, ⟨hch, hK, hU, hP, hT⟩, fun w' hw hv hag => ?_⟩
          have h3 := hmin w' hw hv hag
          obtain ⟨i, i1, i2⟩ := (T3 c (by omega)).mp hTb
          rcases Nat.lt_or_ge c (w' a) with z | z
          · exact z
          · have := hw.2 i a (by omega) ha (by rw [hag i i1, i2]; omega)
            omega
        | false =>
          rw [brT (by decide)]
          have hfree : ∀ i, i < a → o i ≠ c := fun i hi e => by
            rw [(T3 c (by omega)).mpr ⟨i, hi, e⟩] at hTb
            cases hTb
          generalize ho' : (fun i => if i = a then c else o i) = o'
          have o'a : o' a = c := by rw [← ho']; exact if_pos rfl
          have o'i : agr o' o a := fun i hi => by rw [← ho']; exact if_neg (by omega)
          have o'l : ∀ i, i ≤ a → o' i < n := by
            intro i hi
            by_cases e : i = a
            · rw [e, o'a]; exact hc
            · rw [o'i i (by omega)]; exact hol i (by omega)
          have o'j : ∀ i j, i < a + 1 → j < a + 1 → o' i = o' j → i = j := by
            intro i j hi hj e
            by_cases e1 : i = a
            · by_cases e2 : j = a
              · omega
              · rw [e1, o'a, o'i j (by omega)] at e
                exact absurd e.symm (hfree j (by omega))
            · by_cases e2 : j = a
              · rw [e2, o'a, o'i i (by omega)] at e
                exact absurd e (hfree i (by omega))
              · rw [o'i i (by omega), o'i j (by omega)] at e
                exact hoi i j (by omega) (by omega) e
          have hch' : ∀ i, i ≤ a → upd ch a (nI c) i = nI (o' i) := by
            intro i hi
            by_cases e : i = a
            · rw [e, pk_us, o'a]
            · rw [pk_un e, hch i (by omega), o'i i (by omega)]
          have hK1 := hK.add (c := c) (by omega) o'i o'a
          obtain ⟨m, th2, bk2, us2, pu2, jr, hm, hU2, hP2, hT2, hfail⟩ := join21 h7 ha hf hfa hs hsb o'l hch' (tk ||| ((1 : Int32) <<< (nI c &&& 31))) hU (hP.cong0 (fun i hi => by rw [o'i i hi])) (hT.cong0 (fun i hi => by rw [o'i i hi]))
          rw [o'a] at jr
          have jn : fX2_join (nI a) (nI c) tk fi se ch th bk us pu = some (nI m, tk ||| ((1 : Int32) <<< (nI c &&& 31)), upd ch a (nI c), th2, bk2, us2, pu2) := by
            unfold fX2_join
            simp only [lt_]
            rw [nI_clamp (by omega), gd_eq ⟨nI_pos (by omega), by omega⟩]
            exact jr
          rw [bd_eq jn]
          have next : ∀ {tk3 : Int32} {ch3 th3 bk3 us3 pu3 : Nat → Int32} {m3 : Nat}, m3 ≤ a + 1 → (∀ i, i ≤ a → ch3 i = nI (o' i)) → TK (a + 1) o' tk3 → US as a m3 us3 → US (fun i => bs (o' i)) a m3 pu3 → TH as (fun i => bs (o' i)) a m3 th3 bk3 → (∀ w', isP w' n → vld as bs w' n → ¬ agr w' o' (a + 1)) → ∃ q2, bX2_pairFrom_61 (fX2_pairFrom d) (nI a) (nI c) (nI m3) (nI n) tk3 fi se ch3 th3 bk3 us3 pu3 = some (.inl q2) ∧ (q2.1 = nI (c + 1) ∧ ST as bs a o q2.2.1 q2.2.2.1 q2.2.2.2.1 q2.2.2.2.2.1 q2.2.2.2.2.2.1 q2.2.2.2.2.2.2 ∧ ∀ w', isP w' n → vld as bs w' n → agr w' o a → c + 1 ≤ w' a) := by
            intro tk3 ch3 th3 bk3 us3 pu3 m3 hm3 hch3 hK3 hU3 hP3 hT3 hno
            obtain ⟨tk4, us4, pu4, pr, hS4⟩ := partBack h7 ha hf hfa hs hsb o'l hch3 o'i (fun i hi => by rw [o'a]; exact hfree i hi) hm3 hK3 hU3 hP3 hT3
            unfold bX2_pairFrom_61 bX2_pairFrom_67
            rw [bd_eq pr]
            simp only [lt_]
            rw [nI_1]
            refine ⟨_, rfl, rfl, hS4, fun w' hw hv hag => ?_⟩
            have h3 := hmin w' hw hv hag
            rcases Nat.lt_or_ge c (w' a) with z | z
            · exact z
            · refine absurd (fun i hi => ?_) (hno w' hw hv)
              by_cases e : i = a
              · rw [e, o'a]; omega
              · rw [o'i i (by omega)]; exact hag i (by omega)
          by_cases hma : m ≤ a
          · rw [brT (nI_le hma (by omega))]
            refine Or.inl (next hm hch' hK1 hU2 hP2 hT2 (fun w' hw hv hag => ?_))
            obtain ⟨i, j, i1, j1, hbad⟩ := hfail hma
            apply hbad
            have := hv i j a m (by omega) (by omega) (by omega) (by omega)
            rw [hag i (by omega), hag j (by omega), hag a (by omega), hag m (by omega)] at this
            exact this
          · have hm1 : m = a + 1 := by omega
            subst hm1
            rw [brF (nI_ge (by omega) (by omega)), nI_1]
            have hU3 : US as (a + 1) 0 us2 := hU2
            have hP3 : US (fun i => bs (o' i)) (a + 1) 0 pu2 := hP2
            obtain ⟨⟨r, tk3, ch3, th3, bk3, us3, pu3⟩, rr, hPA⟩ := ih (a + 1) o' (tk ||| ((1 : Int32) <<< (nI c &&& 31))) (upd ch a (nI c)) th2 bk2 us2 pu2 (by omega) (by omega) (fun i hi => o'l i (by omega)) o'j ⟨fun i hi => hch' i (by omega), hK1, hU3, hP3, TH.up.mp hT2⟩
            rw [bd_eq rr]
            rcases hPA with ⟨e1, w, w1, w2, w3, w4, w5⟩ | ⟨e1, hno, s1, s2, s3, s4, s5⟩
            · have e1 : r = 1 := e1
              right
              rw [brF (show ¬ r = 0 by rw [e1]; decide), gd_eq (by decide)]
              refine ⟨_, rfl, Or.inl ⟨rfl, w, w1, w2, w3, fun i hi => by rw [w4 i (by omega), o'i i hi], fun w' hw hv hag => ?_⟩⟩
              have h3 := hmin w' hw hv hag
              by_cases e : w' a = c
              · refine w5 w' hw hv (fun i hi => ?_)
                by_cases e2 : i = a
                · rw [e2, o'a, e]
                · rw [o'i i (by omega)]; exact hag i (by omega)
              · intro hl
                refine lxl_asym hl ⟨a, ha, fun i hi => ?_, ?_⟩
                · rw [w4 i (by omega), o'i i hi, hag i hi]
                · rw [w4 a (by omega), o'a]; omega
            · have e1 : r = 0 := e1
              rw [brT e1]
              exact Or.inl (next (Nat.le_refl _) (fun i hi => s1 i (by omega)) s2 s3 s4 (TH.up.mpr s5) hno)
      · rintro ⟨v, tk, ch, th, bk, us, pu⟩ ⟨rfl, hST, hmin⟩
        show ∃ t, bX2_pairFrom_18 (fX2_pairFrom d) (nI a) (nI n) fi se (nI n) tk ch th bk us pu = _ ∧ _
        unfold bX2_pairFrom_18
        rw [brT (Int32.le_refl _), gd_eq (by decide)]
        refine ⟨_, rfl, Or.inr ⟨rfl, fun w' hw hv hag => ?_, hST⟩⟩
        have h3 := hmin w' hw hv hag
        have h4 := hw.1 a ha
        omega
