/-- sums of so many of A -/
def tS (A : Nat → Bool) : Nat → Nat → Bool
  | 0 => A
  | t + 1 => sS A (tS A t) 41
theorem sS_cong {A B E : Nat → Bool} {v : Nat} (h : ∀ u, u ≤ v → B u = E u) : sS A B 41 v = sS A E 41 v := by
  rw [Bool.eq_iff_iff, sS_iff, sS_iff]
  constructor
  · rintro ⟨a, a1, a2, a3, a4⟩
    exact ⟨a, a1, a2, a3, by rw [← h _ (by omega)]; exact a4⟩
  · rintro ⟨a, a1, a2, a3, a4⟩
    exact ⟨a, a1, a2, a3, by rw [h _ (by omega)]; exact a4⟩
theorem tS_big {A : Nat → Bool} (hA : ∀ v, 41 ≤ v → A v = false) : ∀ t v, 40 * (t + 1) < v → tS A t v = false := by
  intro t
  induction t with
  | zero => intro v hv; exact hA v (by omega)
  | succ t ih =>
    intro v hv
    cases e : tS A (t + 1) v with
    | false => rfl
    | true =>
      obtain ⟨a, a1, a2, a3, a4⟩ := sS_iff.mp e
      rw [ih _ (by omega)] at a4
      cases a4
theorem times7_eq {x : Int64} {k : Nat} (hk : k < 4) {sl : Nat → Int64} (hx : sl k = x) (hA : ∀ v, 41 ≤ v → bi x v = false) {n : Nat} (hn : n < 6) (w o : Nat → Int64) (hw : ∀ v, v < 256 → wb w v = bi x v) : ∃ w2 o2, run (sX7_times_35 (nI k) (nI (n + 1)) sl) ((1 : Int32), w, o) = some (nI (fb_ct (tS (bi x) n) 241), w2, o2) := by
  have key := run_inv0 (step := sX7_times_35 (nI k) (nI (n + 1)) sl) n (fun i q => q.1 = nI (i + 1) ∧ ∀ v, v < 256 → wb q.2.1 v = tS (bi x) i v) (fun t => ∃ w2 o2, t = (nI (fb_ct (tS (bi x) n) 241), w2, o2)) (by
    rintro i ⟨p, w, o⟩ hi ⟨rfl, hw⟩
    left
    show ∃ q2, bX7_times_35 (nI k) (nI (n + 1)) sl (nI (i + 1)) w o = _ ∧ _
    obtain ⟨w2, h1, h2⟩ := becomeSums_eq x w (va_cpy w o 0 0 4)
    unfold bX7_times_35 fX6_becomeLike
    simp only [lt_]
    rw [brF (nI_ge (by omega) (by omega)), bd_eq rfl, cl4 hk, g4 hk, hx, show (0 : Int32).toNatClampNeg = 0 from by decide, show (4 : Int32).toNatClampNeg = 4 from by decide, bd_eq h1]
    refine ⟨_, rfl, nI_1 _, fun v hv => ?_⟩
    show wb w2 v = sS (bi x) (tS (bi x) i) 41 v
    rw [h2 v hv]
    refine sS_cong (fun u hu => ?_)
    rw [← hw u (by omega)]
    unfold wb
    rw [pk_cpy_in (by omega) (by omega)]
    rw [show 0 + (u / 64 - 0) = u / 64 by omega]) (by
    rintro ⟨p, w, o⟩ ⟨rfl, hw⟩
    show ∃ t, bX7_times_35 (nI k) (nI (n + 1)) sl (nI (n + 1)) w o = _ ∧ _
    unfold bX7_times_35
    rw [brT (Int32.le_refl _), size6_eq]
    refine ⟨_, rfl, w, o, ?_⟩
    rw [fb_ct_cong hw, show (256 : Nat) = 241 + 15 from rfl, fb_ct_split]
    have e : fb_ct (fun k => tS (bi x) n (241 + k)) 15 = 0 := fb_ct_zero.mpr (fun k _ => tS_big hA n _ (by omega))
    rw [e, Nat.add_zero]) (q := ((1 : Int32), w, o)) ⟨rfl, hw⟩
  obtain ⟨t, h1, w2, o2, rfl⟩ := key
  exact ⟨w2, o2, h1⟩
theorem tm_144 {A : Nat → Bool} {fi nw ot : Nat → Int32} (hfi : ∀ a, a < 41 → A a = true → fi (fb_ct A a) = nI a) (x2 x4 : Int32) {v : Nat} (hv : v < 201) {O : Prop} (hO : is01 (ot v) O) {sm : Nat → Int32} {C : Nat → Prop} (hC : ∀ u, u < 241 → is01 (sm u) (C u)) :
    ∃ sm2, run (sX8_times_144 x2 (nI (fb_ct A 41)) x4 (nI v) nw fi ot) ((0 : Int32), sm) = some (.inl (nI (v + 1), sm2)) ∧ ∀ u, u < 241 → is01 (sm2 u) (C u ∨ (O ∧ ∃ a, a < 41 ∧ A a = true ∧ u = v + a)) := by
  have hcA := fb_ct_le A 41
  have key := run_inv0 (step := sX8_times_144 x2 (nI (fb_ct A 41)) x4 (nI v) nw fi ot) (fb_ct A 41) (fun i q => q.1 = nI i ∧ ∀ u, u < 241 → is01 (q.2 u) (C u ∨ (O ∧ ∃ a, a < 41 ∧ A a = true ∧ fb_ct A a < i ∧ u = v + a))) (fun t => ∃ sm2, t = .inl (nI (v + 1), sm2) ∧ ∀ u, u < 241 → is01 (sm2 u) (C u ∨ (O ∧ ∃ a, a < 41 ∧ A a = true ∧ u = v + a))) (by
    rintro i ⟨p, f⟩ hi ⟨rfl, hf⟩
    show (∃ q2, bX8_times_144 x2 (nI (fb_ct A 41)) x4 (nI v) nw fi ot (nI i) f = _ ∧ _) ∨ (∃ t, bX8_times_144 x2 (nI (fb_ct A 41)) x4 (nI v) nw fi ot (nI i) f = _ ∧ _)
    unfold bX8_times_144 bX8_times_182
    simp only [lt_]
    rw [brF (nI_ge hi (by omega)), nI_clamp (by omega), gd_eq ⟨nI_pos (by omega), by omega⟩, nI_clamp (by omega)]
    by_cases ho : ot v = 0
    · rw [brT ho]
      have hO' : ¬ O := fun z => hO.ne.mpr z ho
      refine Or.inr ⟨_, rfl, f, by rw [nI_1], fun u hu => (hf u hu).congr ⟨?_, ?_⟩⟩
      · rintro (h | ⟨h, _⟩)
        · exact Or.inl h
        · exact absurd h hO'
      · rintro (h | ⟨h, _⟩)
        · exact Or.inl h
        · exact absurd h hO'
    · have hO' : O := hO.ne.mp ho
      obtain ⟨a, a1, a2, a3⟩ := fb_ct_kth hi
      rw [brF ho, gd_eq ⟨nI_pos (by omega), by omega⟩, ← a3, hfi a a1 a2, nI_add, nI_clamp (by omega), gd_eq ⟨nI_pos (by omega), by omega⟩]
      refine Or.inl ⟨_, rfl, nI_1 _, fun u hu => ?_⟩
      show is01 (upd f (v + a) 1 u) _
      by_cases eu : u = v + a
      · rw [eu, pk_us]
        exact is01.yes (Or.inr ⟨hO', a, a1, a2, by omega, rfl⟩)
      · rw [pk_un eu]
        refine (hf u hu).congr ⟨?_, ?_⟩
        · rintro (h | ⟨h, c, c1, c2, c3, c4⟩)
          · exact Or.inl h
          · exact Or.inr ⟨h, c, c1, c2, by omega, c4⟩
        · rintro (h | ⟨h, c, c1, c2, c3, c4⟩)
          · exact Or.inl h
          · refine Or.inr ⟨h, c, c1, c2, ?_, c4⟩
            rcases Nat.lt_or_ge (fb_ct A c) (fb_ct A a) with l | l
            · omega
            · have := fb_ct_kth_one c2 a2 (by omega)
              subst this
              exact absurd c4 eu) (by
    rintro ⟨p, f⟩ ⟨rfl, hf⟩
    show (∃ t, bX8_times_144 x2 (nI (fb_ct A 41)) x4 (nI v) nw fi ot (nI (fb_ct A 41)) f = _ ∧ _)
    unfold bX8_times_144 bX8_times_182
    simp only [lt_]
    rw [brT (Int32.le_refl _)]
    refine ⟨_, rfl, f, by rw [nI_1], fun u hu => (hf u hu).congr ⟨?_, ?_⟩⟩
    · rintro (h | ⟨h, c, c1, c2, c3, c4⟩)
      · exact Or.inl h
      · exact Or.inr ⟨h, c, c1, c2, c4⟩
    · rintro (h | ⟨h, c, c1, c2, c4⟩)
      · exact Or.inl h
      · exact Or.inr ⟨h, c, c1, c2, ct_lt c1 c2, c4⟩) (q := ((0 : Int32), sm)) ⟨rfl, fun u hu => (hC u hu).congr ⟨Or.inl, by
      rintro (h | ⟨h, c, c1, c2, c3, c4⟩)
      · exact h
      · omega⟩⟩
  obtain ⟨t, h1, sm2, rfl, h2⟩ := key
  exact ⟨sm2, h1, h2⟩

theorem tm_133 {A : Nat → Bool} {fi nw ot : Nat → Int32} (hfi : ∀ a, a < 41 → A a = true → fi (fb_ct A a) = nI a) (x2 x4 : Int32) {O : Nat → Prop} (hO : ∀ v, v < 241 → is01 (ot v) (O v)) {sm : Nat → Int32} (hC : ∀ u, u < 241 → sm u = 0) :
    ∃ sm2, run (sX8_times_133 x2 (nI (fb_ct A 41)) x4 nw fi ot) ((0 : Int32), sm) = some (.inl (x4 + 1, sm2, ot)) ∧ ∀ u, u < 241 → is01 (sm2 u) (∃ v, v < 201 ∧ O v ∧ ∃ a, a < 41 ∧ A a = true ∧ u = v + a) := by
  have key := run_inv0 (step := sX8_times_133 x2 (nI (fb_ct A 41)) x4 nw fi ot) 201 (fun i q => q.1 = nI i ∧ ∀ u, u < 241 → is01 (q.2 u) (∃ v, v < i ∧ O v ∧ ∃ a, a < 41 ∧ A a = true ∧ u = v + a)) (fun t => ∃ sm2, t = .inl (x4 + 1, sm2, ot) ∧ ∀ u, u < 241 → is01 (sm2 u) (∃ v, v < 201 ∧ O v ∧ ∃ a, a < 41 ∧ A a = true ∧ u = v + a)) (by
    rintro i ⟨p, f⟩ hi ⟨rfl, hf⟩
    show (∃ q2, bX8_times_133 x2 (nI (fb_ct A 41)) x4 nw fi ot (nI i) f = _ ∧ _) ∨ _
    unfold bX8_times_133
    rw [brF (show ¬ (201 : Int32) ≤ nI i from nI_ge (b := 201) hi (by omega))]
    obtain ⟨sm2, h1, h2⟩ := tm_144 (nw := nw) (A := A) hfi x2 x4 hi (hO i (by omega)) hf
    refine Or.inl ⟨_, h1, rfl, fun u hu => (h2 u hu).congr ⟨?_, ?_⟩⟩
    · rintro (⟨v, v1, v2⟩ | h)
      · exact ⟨v, by omega, v2⟩
      · exact ⟨i, by omega, h⟩
    · rintro ⟨v, v1, v2⟩
      by_cases e : v = i
      · subst e; exact Or.inr v2
      · exact Or.inl ⟨v, by omega, v2⟩) (by
    rintro ⟨p, f⟩ ⟨rfl, hf⟩
    show ∃ t, bX8_times_133 x2 (nI (fb_ct A 41)) x4 nw fi ot (nI 201) f = _ ∧ _
    unfold bX8_times_133
    rw [brT (by decide)]
    exact ⟨_, rfl, f, rfl, hf⟩) (q := ((0 : Int32), sm)) ⟨rfl, fun u hu => by
      show is01 (sm u) _
      rw [hC u hu]
      refine is01.no ?_
      rintro ⟨v, v1, _⟩
      omega⟩
  obtain ⟨t, h1, sm2, rfl, h2⟩ := key
  exact ⟨sm2, h1, h2⟩
theorem tm_94 {A : Nat → Bool} {fi nw : Nat → Int32} (hfi : ∀ a, a < 41 → A a = true → fi (fb_ct A a) = nI a) (x2 x4 : Int32) {O : Nat → Prop} {sm ot : Nat → Int32} (hO : ∀ v, v < 241 → is01 (sm v) (O v)) :
    ∃ sm2 ot2, run (sX8_times_94 x2 (nI (fb_ct A 41)) x4 nw fi) ((0 : Int32), sm, ot) = some (.inl (x4 + 1, sm2, ot2)) ∧ ∀ u, u < 241 → is01 (sm2 u) (∃ v, v < 201 ∧ O v ∧ ∃ a, a < 41 ∧ A a = true ∧ u = v + a) := by
  have key := run_inv0 (step := sX8_times_94 x2 (nI (fb_ct A 41)) x4 nw fi) 241 (fun i q => q.1 = nI i ∧ (∀ u, u < i → q.2.1 u = 0 ∧ is01 (q.2.2 u) (O u)) ∧ ∀ u, i ≤ u → q.2.1 u = sm u) (fun t => ∃ sm2 ot2, t = .inl (x4 + 1, sm2, ot2) ∧ ∀ u, u < 241 → is01 (sm2 u) (∃ v, v < 201 ∧ O v ∧ ∃ a, a < 41 ∧ A a = true ∧ u = v + a)) (by
    rintro i ⟨p, f, g⟩ hi ⟨rfl, hf, hg⟩
    show (∃ q2, bX8_times_94 x2 (nI (fb_ct A 41)) x4 nw fi (nI i) f g = _ ∧ _) ∨ _
    unfold bX8_times_94
    simp only [lt_]
    have hfi' : f i = sm i := hg i (Nat.le_refl _)
    rw [brF (show ¬ (241 : Int32) ≤ nI i from nI_ge (b := 241) hi (by omega)), nI_clamp (by omega), gd_eq ⟨nI_pos (by omega), by omega⟩, gd_eq ⟨nI_pos (by omega), by omega⟩, gd_eq ⟨nI_pos (by omega), by omega⟩, hfi', nar_z (hO i hi).z]
    refine Or.inl ⟨_, rfl, nI_1 _, fun u hu => ?_, fun u hu => ?_⟩
    · show upd f i 0 u = 0 ∧ is01 (upd g i (sm i) u) (O u)
      by_cases e : u = i
      · rw [e, pk_us, pk_us]; exact ⟨rfl, hO i hi⟩
      · rw [pk_un e, pk_un e]; exact hf u (by omega)
    · show upd f i 0 u = sm u
      rw [pk_un (by omega)]; exact hg u (by omega)) (by
    rintro ⟨p, f, g⟩ ⟨rfl, hf, hg⟩
    show ∃ t, bX8_times_94 x2 (nI (fb_ct A 41)) x4 nw fi (nI 241) f g = _ ∧ _
    unfold bX8_times_94
    obtain ⟨sm2, h1, h2⟩ := tm_133 (nw := nw) hfi x2 x4 (fun v hv => (hf v hv).2) (fun u hu => (hf u hu).1)
    rw [brT (by decide), h1]
    exact ⟨_, rfl, sm2, g, rfl, h2⟩) (q := ((0 : Int32), sm, ot)) ⟨rfl, fun u hu => absurd hu (by omega), fun _ _ => rfl⟩
  obtain ⟨t, h1, sm2, ot2, rfl, h2⟩ := key
  exact ⟨sm2, ot2, h1, h2⟩
theorem tm_85 {A : Nat → Bool} (hA : ∀ v, 41 ≤ v → A v = false) {fi nw : Nat → Int32} (hfi : ∀ a, a < 41 → A a = true → fi (fb_ct A a) = nI a) {n : Nat} (hn : n < 6) {sm ot : Nat → Int32} (hO : ∀ v, v < 241 → is01 (sm v) (A v = true)) :
    ∃ sm2 ot2, run (sX8_times_85 (nI (n + 1)) (nI (fb_ct A 41)) nw fi) ((1 : Int32), sm, ot) = some (nI (fb_ct (tS A n) 241), fi, sm2, ot2) := by
  have key := run_inv0 (step := sX8_times_85 (nI (n + 1)) (nI (fb_ct A 41)) nw fi) n (fun i q => q.1 = nI (i + 1) ∧ ∀ v, v < 241 → is01 (q.2.1 v) (tS A i v = true)) (fun t => ∃ sm2 ot2, t = (nI (fb_ct (tS A n) 241), fi, sm2, ot2)) (by
    rintro i ⟨p, f, g⟩ hi ⟨rfl, hf⟩
    show (∃ q2, bX8_times_85 (nI (n + 1)) (nI (fb_ct A 41)) nw fi (nI (i + 1)) f g = _ ∧ _) ∨ _
    unfold bX8_times_85
    obtain ⟨sm2, ot2, h1, h2⟩ := tm_94 (nw := nw) (ot := g) hfi (nI (n + 1)) (nI (i + 1)) hf
    rw [brF (nI_ge (by omega) (by omega))]
    refine Or.inl ⟨_, h1, nI_1 _, fun v hv => (h2 v hv).congr ?_⟩
    show _ ↔ sS A (tS A i) 41 v = true
    rw [sS_iff]
    constructor
    · rintro ⟨u, u1, u2, a, a1, a2, a3⟩
      exact ⟨a, a1, a2, by omega, by rw [show v - a = u by omega]; exact u2⟩
    · rintro ⟨a, a1, a2, a3, a4⟩
      refine ⟨v - a, ?_, a4, a, a1, a2, by omega⟩
      rcases Nat.lt_or_ge (v - a) 201 with l | l
      · exact l
      · rw [tS_big hA i _ (by omega)] at a4; cases a4) (by
    rintro ⟨p, f, g⟩ ⟨rfl, hf⟩
    show ∃ t, bX8_times_85 (nI (n + 1)) (nI (fb_ct A 41)) nw fi (nI (n + 1)) f g = _ ∧ _
    unfold bX8_times_85
    rw [brT (Int32.le_refl _), bd_eq (ones_eq hf)]
    exact ⟨_, rfl, f, g, rfl⟩) (q := ((1 : Int32), sm, ot)) ⟨rfl, hO⟩
  obtain ⟨t, h1, sm2, ot2, rfl⟩ := key
  exact ⟨sm2, ot2, h1⟩
theorem times8_eq {sl : Nat → Int64} {nw : Nat → Int32} (h : RS sl nw) {k : Nat} (hk : k < 4) {fi : Nat → Int32} (hfi : ∀ a, a < 41 → bi (sl k) a = true → fi (fb_ct (bi (sl k)) a) = nI a) {n : Nat} (hn : n < 6) (sm ot : Nat → Int32) :
    ∃ sm2 ot2, run (sX8_times_34 (nI k) (nI (n + 1)) (nI (cn sl k)) nw fi ot) ((0 : Int32), sm) = some (nI (fb_ct (tS (bi (sl k)) n) 241), fi, sm2, ot2) := by
  have key := run_inv0 (step := sX8_times_34 (nI k) (nI (n + 1)) (nI (cn sl k)) nw fi ot) 241 (fun i q => q.1 = nI i ∧ ∀ v, v < i → is01 (q.2 v) (bi (sl k) v = true)) (fun t => ∃ sm2 ot2, t = (nI (fb_ct (tS (bi (sl k)) n) 241), fi, sm2, ot2)) (by
    rintro i ⟨p, f⟩ hi ⟨rfl, hf⟩
    show (∃ q2, bX8_times_34 (nI k) (nI (n + 1)) (nI (cn sl k)) nw fi ot (nI i) f = _ ∧ _) ∨ _
    unfold bX8_times_34 bX8_times_74 bX8_times_75
    simp only [lt_]
    have upd_ok : ∀ y, is01 y (bi (sl k) i = true) → ∀ v, v < i + 1 → is01 (upd f i y v) (bi (sl k) v = true) := by
      intro y hy v hv
      by_cases e : v = i
      · rw [e, pk_us]; exact hy
      · rw [pk_un e]; exact hf v (by omega)
    rw [brF (show ¬ (241 : Int32) ≤ nI i from nI_ge (b := 241) hi (by omega)), nI_clamp (by omega)]
    simp only [gd_eq (show ¬ nI i < 0 ∧ i < 241 from ⟨nI_pos (by omega), hi⟩)]
    by_cases h41 : 41 ≤ i
    · rw [brT (show (41 : Int32) ≤ nI i from nI_le (a := 41) h41 (by omega))]
      refine Or.inl ⟨_, rfl, nI_1 _, upd_ok 0 (is01.no ?_)⟩
      rw [(h k hk).2 i h41]; decide
    · rw [brF (show ¬ (41 : Int32) ≤ nI i from nI_ge (b := 41) (by omega) (by omega)), show (41 : Int32) = nI 41 from rfl, pk_mul, nI_add, nI_clamp (by omega), gd_eq ⟨nI_pos (by omega), by omega⟩, (h k hk).1 i (by omega)]
      by_cases hb : bi (sl k) i = true
      · rw [if_pos hb, brF (by decide)]
        exact Or.inl ⟨_, rfl, nI_1 _, upd_ok 1 (is01.yes hb)⟩
      · rw [if_neg hb, brT rfl]
        exact Or.inl ⟨_, rfl, nI_1 _, upd_ok 0 (is01.no hb)⟩) (by
    rintro ⟨p, f⟩ ⟨rfl, hf⟩
    show ∃ t, bX8_times_34 (nI k) (nI (n + 1)) (nI (cn sl k)) nw fi ot (nI 241) f = _ ∧ _
    unfold bX8_times_34
    obtain ⟨sm2, ot2, h1⟩ := tm_85 (nw := nw) (ot := ot) (h k hk).2 hfi hn hf
    rw [brT (by decide), show cn sl k = fb_ct (bi (sl k)) 41 from rfl, h1]
    exact ⟨_, rfl, sm2, ot2, rfl⟩) (q := ((0 : Int32), sm)) ⟨rfl, fun v hv => absurd hv (by omega)⟩
  obtain ⟨t, h1, sm2, ot2, rfl⟩ := key
  exact ⟨sm2, ot2, h1⟩
theorem p6 : (6 : Int64) = (6 : Int32).toInt64 := by decide
theorem core_times {sl : Nat → Int64} {nw : Nat → Int32} (h : RS sl nw) (q w : Int32) (sw_ aw : Nat → Int64) (fi sm ot : Nat → Int32) : ∃ r sw2 aw2 fi2 sm2 ot2, fX7_times q w sl sw_ aw = some (r, sw2, aw2) ∧ fX8_times q w nw fi sm ot = some (r, fi2, sm2, ot2) := by
  rcases slot_cases q with ⟨k, hk, rfl⟩ | hq
  · by_cases hw : w < 1 ∨ 6 < w
    · refine ⟨-1, sw_, aw, fi, sm, ot, ?_, ?_⟩
      · unfold fX7_times
        rw [bd_eq (isSlot_in k hk), brF (by decide)]
        by_cases h1 : w < 1
        · rw [brT h1]
        · rw [brF h1, brF (Int32.not_le.mpr (hw.resolve_left h1))]
      · unfold fX8_times
        rw [bd_eq (isSlot8_in k hk), brF (by decide), p1, p6, in8_dec, if_pos hw, bd_eq rfl, brT rfl]
    · have hn : ∃ n, n < 6 ∧ w = nI (n + 1) := by
        have h1 : ¬ w < 1 := fun z => hw (Or.inl z)
        have h2 : ¬ 6 < w := fun z => hw (Or.inr z)
        obtain ⟨j, hj, rfl⟩ := nI_of2 (x := w) (M := 6) (n := 6) (by decide) (fun z => h1 (Int32.lt_trans z (by decide))) (Int32.not_lt.mp h2)
        rcases Nat.eq_zero_or_pos j with e | e
        · subst e; exact absurd (by decide) h1
        · exact ⟨j - 1, by omega, by rw [show j - 1 + 1 = j by omega]⟩
      obtain ⟨n, hn, rfl⟩ := hn
      obtain ⟨w1, b1, b2, b3⟩ := become_eq (sl k) sw_
      obtain ⟨w2, o2, f1⟩ := times7_eq hk rfl (h k hk).2 hn w1 aw (fun v hv => by
        rcases Nat.lt_or_ge v 64 with l | l
        · exact b2 v l
        · rw [b3 v l hv, (h k hk).2 v (by omega)])
      obtain ⟨sm2, ot2, g1⟩ := times8_eq h hk (fi := lsF (bi (sl k)) fi 41) (fun c hc hA => lsF_at hc hA) hn sm ot
      refine ⟨nI (fb_ct (tS (bi (sl k)) n) 241), w2, o2, lsF (bi (sl k)) fi 41, sm2, ot2, ?_, ?_⟩
      · unfold fX7_times
        rw [bd_eq (isSlot_in k hk), brF (by decide), brF (fun z => hw (Or.inl z)), brT (Int32.not_lt.mp (fun z => hw (Or.inr z))), cl4 hk, g4 hk, bd_eq b1, f1]
      · unfold fX8_times
        rw [bd_eq (isSlot8_in k hk), brF (by decide), p1, p6, in8_dec, if_neg hw, bd_eq rfl, brF (by decide), bd_eq (lists8_eq h hk fi), g1]
  · refine ⟨-1, sw_, aw, fi, sm, ot, ?_, ?_⟩
    · unfold fX7_times
      rw [bd_eq (isSlot_out hq), brT rfl]
    · unfold fX8_times
      rw [bd_eq (isSlot8_out hq), brT rfl]
