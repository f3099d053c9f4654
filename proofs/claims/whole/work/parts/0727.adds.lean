/-! the reference's sums -/
/-- a truth of a row -/
def is01 (x : Int32) (C : Prop) : Prop := (x = 1 ∧ C) ∨ (x = 0 ∧ ¬ C)
theorem is01.congr {x : Int32} {C E : Prop} (h : is01 x C) (e : C ↔ E) : is01 x E := by
  rcases h with ⟨h1, h2⟩ | ⟨h1, h2⟩
  · exact Or.inl ⟨h1, e.mp h2⟩
  · exact Or.inr ⟨h1, fun z => h2 (e.mpr z)⟩
theorem is01.yes {C : Prop} (h : C) : is01 1 C := Or.inl ⟨rfl, h⟩
theorem is01.no {C : Prop} (h : ¬ C) : is01 0 C := Or.inr ⟨rfl, h⟩
theorem is01.ne {x : Int32} {C : Prop} (h : is01 x C) : ¬ x = 0 ↔ C := by
  rcases h with ⟨rfl, h2⟩ | ⟨rfl, h2⟩
  · exact ⟨fun _ => h2, fun _ => by decide⟩
  · exact ⟨fun z => absurd rfl z, fun z => absurd z h2⟩
theorem ones_eq {f : Nat → Int32} {P : Nat → Bool} (h : ∀ v, v < 241 → is01 (f v) (P v = true)) : fX8_ones 241 f = some (nI (fb_ct P 241)) := by
  unfold fX8_ones
  refine run_all (step := sX8_ones_4 f 241) 241 (fun i => (nI (fb_ct P i), nI i)) _ ?_ ?_
  · intro i hi
    show bX8_ones_4 241 f (nI (fb_ct P i)) (nI i) = _
    unfold bX8_ones_4 bX8_ones_23
    simp only [lt_]
    rw [brF (show ¬ (241 : Int32) ≤ nI i from nI_ge (b := 241) hi (by omega)), nI_clamp (by omega), gd_eq ⟨nI_pos (by omega), hi⟩, fb_ct_succ, nI_1, nI_z, nI_1]
    by_cases hb : P i = true
    · rw [brF ((h i hi).ne.mpr hb), if_pos hb]
    · rw [brT (Classical.not_not.mp (fun z => hb ((h i hi).ne.mp z))), if_neg hb]; rfl
  · show bX8_ones_4 241 f (nI (fb_ct P 241)) (nI 241) = _
    unfold bX8_ones_4
    rw [brT (by decide)]
/-- the loops of adds: first and second list A and B; g tells the place of a pair -/
theorem adds_in {A B : Nat → Bool} {fi se nw : Nat → Int32} {x3 : Int32} {g : Nat → Nat → Nat} (hfi : ∀ a, a < 41 → A a = true → fi (fb_ct A a) = nI a) (hse : ∀ b, b < 41 → B b = true → se (fb_ct B b) = nI b)
    (hg : ∀ a b, a < 41 → b < 41 → g a b < 241 ∧ ∀ (x4 x5 x6 x7 : Int32) (sm : Nat → Int32), fi x6.toNatClampNeg = nI a → se x7.toNatClampNeg = nI b → (¬ x6 < 0 ∧ x6.toNatClampNeg < 41) → (¬ x7 < 0 ∧ x7.toNatClampNeg < 41) → ¬ x5 ≤ x7 → bX8_adds_60 x3 x4 x5 x6 nw fi se x7 sm = bX8_adds_111 x3 x4 x5 x6 x7 (nI (g a b)) nw fi se sm)
    {a : Nat} (ha : a < 41) (hA : A a = true) {sm : Nat → Int32} {C : Nat → Prop} (hC : ∀ v, v < 241 → is01 (sm v) (C v)) (x4 : Int32) :
    ∃ sm2, run (sX8_adds_60 x3 x4 (nI (fb_ct B 41)) (nI (fb_ct A a)) nw fi se) ((0 : Int32), sm) = some (.inl (nI (fb_ct A a + 1), sm2)) ∧ ∀ v, v < 241 → is01 (sm2 v) (C v ∨ ∃ b, b < 41 ∧ B b = true ∧ v = g a b) := by
  have hcA := fb_ct_le A a
  have hcB := fb_ct_le B 41
  have key : ∃ t, run (sX8_adds_60 x3 x4 (nI (fb_ct B 41)) (nI (fb_ct A a)) nw fi se) ((0 : Int32), sm) = some t ∧ ∃ sm2, t = .inl (nI (fb_ct A a + 1), sm2) ∧ ∀ v, v < 241 → is01 (sm2 v) (C v ∨ ∃ b, b < 41 ∧ B b = true ∧ v = g a b) := by
    refine run_inv0 (step := sX8_adds_60 x3 x4 (nI (fb_ct B 41)) (nI (fb_ct A a)) nw fi se) (fb_ct B 41) (fun i q => q.1 = nI i ∧ ∀ v, v < 241 → is01 (q.2 v) (C v ∨ ∃ b, b < 41 ∧ B b = true ∧ fb_ct B b < i ∧ v = g a b)) _ ?_ ?_ ⟨rfl, fun v hv => (hC v hv).congr ⟨Or.inl, fun z => z.resolve_right (by rintro ⟨b, _, _, z, _⟩; omega)⟩⟩
    · rintro i ⟨z, f⟩ hi ⟨rfl, hf⟩
      left
      obtain ⟨b, b1, b2, b3⟩ := fb_ct_kth (p := B) (k := i) (n := 41) hi
      obtain ⟨g1, g2⟩ := hg a b ha b1
      refine ⟨(nI (i + 1), upd f (g a b) 1), ?_, rfl, fun v hv => ?_⟩
      · show bX8_adds_60 x3 x4 (nI (fb_ct B 41)) (nI (fb_ct A a)) nw fi se (nI i) f = _
        have cA : (nI (fb_ct A a)).toNatClampNeg = fb_ct A a := nI_clamp (by omega)
        have cB : (nI i).toNatClampNeg = i := nI_clamp (by omega)
        rw [g2 x4 _ _ _ f (by rw [cA]; exact hfi a ha hA) (by rw [cB, ← b3]; exact hse b b1 b2) ⟨nI_pos (by omega), by rw [cA]; omega⟩ ⟨nI_pos (by omega), by rw [cB]; omega⟩ (nI_ge hi (by omega))]
        unfold bX8_adds_111
        simp only [lt_]
        rw [nI_clamp (by omega), gd_eq ⟨nI_pos (by omega), g1⟩, nI_1]
        rfl
      · show is01 (upd f (g a b) 1 v) _
        by_cases e : v = g a b
        · rw [e, pk_us]
          exact is01.yes (Or.inr ⟨b, b1, b2, by omega, rfl⟩)
        · rw [pk_un e]
          refine (hf v hv).congr ⟨fun z => ?_, fun z => ?_⟩
          · rcases z with z | ⟨b', c1, c2, c3, c4⟩
            · exact Or.inl z
            · exact Or.inr ⟨b', c1, c2, by omega, c4⟩
          · rcases z with z | ⟨b', c1, c2, c3, c4⟩
            · exact Or.inl z
            · refine Or.inr ⟨b', c1, c2, ?_, c4⟩
              have hne : fb_ct B b' ≠ i := fun z => e (by rw [c4, fb_ct_kth_one c2 b2 (by omega)])
              omega
    · rintro ⟨z, f⟩ ⟨rfl, hf⟩
      refine ⟨_, ?_, f, rfl, fun v hv => (hf v hv).congr ⟨fun z => ?_, fun z => ?_⟩⟩
      · show bX8_adds_60 x3 x4 (nI (fb_ct B 41)) (nI (fb_ct A a)) nw fi se (nI (fb_ct B 41)) f = _
        unfold bX8_adds_60
        simp only [lt_]
        rw [brT (nI_le (Nat.le_refl _) (by omega)), nI_1]
      · rcases z with z | ⟨b', c1, c2, c3, c4⟩
        · exact Or.inl z
        · exact Or.inr ⟨b', c1, c2, c4⟩
      · rcases z with z | ⟨b', c1, c2, c4⟩
        · exact Or.inl z
        · exact Or.inr ⟨b', c1, c2, ct_lt c1 c2, c4⟩
  obtain ⟨t, h1, sm2, rfl, h2⟩ := key
  exact ⟨sm2, h1, h2⟩
theorem adds_eq {A B : Nat → Bool} {fi se nw : Nat → Int32} {x3 : Int32} {g : Nat → Nat → Nat} (hfi : ∀ a, a < 41 → A a = true → fi (fb_ct A a) = nI a) (hse : ∀ b, b < 41 → B b = true → se (fb_ct B b) = nI b)
    (hg : ∀ a b, a < 41 → b < 41 → g a b < 241 ∧ ∀ (x4 x5 x6 x7 : Int32) (sm : Nat → Int32), fi x6.toNatClampNeg = nI a → se x7.toNatClampNeg = nI b → (¬ x6 < 0 ∧ x6.toNatClampNeg < 41) → (¬ x7 < 0 ∧ x7.toNatClampNeg < 41) → ¬ x5 ≤ x7 → bX8_adds_60 x3 x4 x5 x6 nw fi se x7 sm = bX8_adds_111 x3 x4 x5 x6 x7 (nI (g a b)) nw fi se sm)
    {P : Nat → Bool} (hP : ∀ v, v < 241 → (P v = true ↔ ∃ a b, a < 41 ∧ A a = true ∧ b < 41 ∧ B b = true ∧ v = g a b)) (sm : Nat → Int32) :
    ∃ sm2, run (sX8_adds_25 x3 (nI (fb_ct A 41)) (nI (fb_ct B 41)) nw fi se) ((0 : Int32), sm) = some (nI (fb_ct P 241), fi, se, sm2) ∧ ∀ v, v < 241 → is01 (sm2 v) (P v = true) := by
  have hcA := fb_ct_le A 41
  have key2 : ∀ sm1 : Nat → Int32, (∀ v, v < 241 → sm1 v = 0) → ∃ t, run (sX8_adds_50 x3 (nI (fb_ct A 41)) (nI (fb_ct B 41)) nw fi se) ((0 : Int32), sm1) = some t ∧ ∃ sm2, t = (nI (fb_ct P 241), fi, se, sm2) ∧ ∀ v, v < 241 → is01 (sm2 v) (P v = true) := by
    intro sm1 hz
    refine run_inv0 (step := sX8_adds_50 x3 (nI (fb_ct A 41)) (nI (fb_ct B 41)) nw fi se) (fb_ct A 41) (fun i q => q.1 = nI i ∧ ∀ v, v < 241 → is01 (q.2 v) (∃ a b, a < 41 ∧ A a = true ∧ fb_ct A a < i ∧ b < 41 ∧ B b = true ∧ v = g a b)) _ ?_ ?_ ⟨rfl, fun v hv => ?_⟩
    · rintro i ⟨z, f⟩ hi ⟨rfl, hf⟩
      left
      obtain ⟨a, a1, a2, a3⟩ := fb_ct_kth (p := A) (k := i) (n := 41) hi
      obtain ⟨sm2, m1, m2⟩ := adds_in hfi hse hg a1 a2 hf (nI (fb_ct A 41))
      rw [a3] at m1
      refine ⟨(nI (i + 1), sm2), ?_, rfl, fun v hv => (m2 v hv).congr ⟨fun z => ?_, fun z => ?_⟩⟩
      · show bX8_adds_50 x3 (nI (fb_ct A 41)) (nI (fb_ct B 41)) nw fi se (nI i) f = _
        unfold bX8_adds_50
        rw [brF (nI_ge hi (by omega))]
        exact m1
      · rcases z with ⟨a', b', c1, c2, c3, c4⟩ | ⟨b', c1, c2, c3⟩
        · exact ⟨a', b', c1, c2, by omega, c4⟩
        · exact ⟨a, b', a1, a2, by omega, c1, c2, c3⟩
      · obtain ⟨a', b', c1, c2, c3, c4, c5, c6⟩ := z
        by_cases e : fb_ct A a' = i
        · have ea : a' = a := fb_ct_kth_one c2 a2 (by omega)
          subst ea
          exact Or.inr ⟨b', c4, c5, c6⟩
        · exact Or.inl ⟨a', b', c1, c2, by omega, c4, c5, c6⟩
    · rintro ⟨z, f⟩ ⟨rfl, hf⟩
      have hfP : ∀ v, v < 241 → is01 (f v) (P v = true) := by
        intro v hv
        refine (hf v hv).congr ((hP v hv).trans ⟨?_, ?_⟩).symm
        · rintro ⟨a', b', c1, c2, c4, c5, c6⟩
          exact ⟨a', b', c1, c2, ct_lt c1 c2, c4, c5, c6⟩
        · rintro ⟨a', b', c1, c2, c3, c4, c5, c6⟩
          exact ⟨a', b', c1, c2, c4, c5, c6⟩
      refine ⟨_, ?_, f, rfl, hfP⟩
      show bX8_adds_50 x3 (nI (fb_ct A 41)) (nI (fb_ct B 41)) nw fi se (nI (fb_ct A 41)) f = _
      unfold bX8_adds_50
      rw [brT (nI_le (Nat.le_refl _) (by omega)), bd_eq (ones_eq hfP)]
    · show is01 (sm1 v) _
      rw [hz v hv]
      refine is01.no ?_
      rintro ⟨a', b', c1, c2, c3, c4⟩
      omega
  have key : ∃ t, run (sX8_adds_25 x3 (nI (fb_ct A 41)) (nI (fb_ct B 41)) nw fi se) ((0 : Int32), sm) = some t ∧ ∃ sm2, t = (nI (fb_ct P 241), fi, se, sm2) ∧ ∀ v, v < 241 → is01 (sm2 v) (P v = true) := by
    refine run_inv0 (step := sX8_adds_25 x3 (nI (fb_ct A 41)) (nI (fb_ct B 41)) nw fi se) 241 (fun i q => q.1 = nI i ∧ ∀ v, v < i → q.2 v = 0) _ ?_ ?_ ⟨rfl, fun v hv => absurd hv (by omega)⟩
    · rintro i ⟨z, f⟩ hi ⟨rfl, hf⟩
      left
      refine ⟨(nI (i + 1), upd f i 0), ?_, rfl, fun v hv => ?_⟩
      · show bX8_adds_25 x3 (nI (fb_ct A 41)) (nI (fb_ct B 41)) nw fi se (nI i) f = _
        unfold bX8_adds_25
        simp only [lt_]
        rw [brF (show ¬ (241 : Int32) ≤ nI i from nI_ge (b := 241) hi (by omega)), nI_clamp (by omega), gd_eq ⟨nI_pos (by omega), hi⟩, nI_1]
        rfl
      · show upd f i 0 v = 0
        by_cases e : v = i
        · rw [e, pk_us]
        · rw [pk_un e]; exact hf v (by omega)
    · rintro ⟨z, f⟩ ⟨rfl, hf⟩
      obtain ⟨t, t1, t2⟩ := key2 f hf
      refine ⟨t, ?_, t2⟩
      show bX8_adds_25 x3 (nI (fb_ct A 41)) (nI (fb_ct B 41)) nw fi se (nI 241) f = _
      unfold bX8_adds_25
      rw [brT (by decide), t1]
      rfl
  obtain ⟨t, h1, sm2, rfl, h2⟩ := key
  exact ⟨sm2, h1, h2⟩
theorem told_eq {f : Nat → Int32} {P : Nat → Bool} (h : ∀ v, v < 241 → is01 (f v) (P v = true)) {n v : Nat} (hv : v < 241) (hb : P v = true) (hc : fb_ct P v = n) : fX8_told (nI (fb_ct P 241)) (nI n) f = some (nI v) := by
  have hlt := ct_lt hv hb
  have hle := fb_ct_le P 241
  unfold fX8_told
  rw [brF (nI_pos (by omega)), brT (nI_lt (by omega) (by omega))]
  refine run_val ?_
  refine run_inv0 (step := sX8_told_25 f) v (fun i q => q = (nI (n - fb_ct P i), nI i)) _ ?_ ?_ rfl
  · rintro i q hi rfl
    left
    have hm := fb_ct_mono P (show i + 1 ≤ v by omega)
    have hs := fb_ct_succ P i
    have e39 : bX8_told_39 (nI (n - fb_ct P i)) (nI i) f = some (.inl (nI (n - fb_ct P (i + 1)), nI (i + 1))) := by
      unfold bX8_told_39 bX8_told_55
      simp only [lt_]
      rw [nI_clamp (by omega), gd_eq ⟨nI_pos (by omega), by omega⟩, nI_1]
      by_cases hp : P i = true
      · rw [if_pos hp] at hs
        rw [brF ((h i (by omega)).ne.mpr hp), show nI (n - fb_ct P i) - 1 = nI (n - fb_ct P i - 1) from pk_sub (b := 1) (by omega), show n - fb_ct P i - 1 = n - fb_ct P (i + 1) by omega]
      · rw [if_neg hp] at hs
        rw [brT (Classical.not_not.mp (fun z => hp ((h i (by omega)).ne.mp z))), show nI (n - fb_ct P i) - 0 = nI (n - fb_ct P i) from pk_sub (b := 0) (by omega), show n - fb_ct P i = n - fb_ct P (i + 1) by omega]
    refine ⟨_, ?_, rfl⟩
    show bX8_told_25 f (nI (n - fb_ct P i)) (nI i) = _
    unfold bX8_told_25
    by_cases h0 : 0 < n - fb_ct P i
    · rw [brT (show (0 : Int32) < nI (n - fb_ct P i) from nI_lt (a := 0) h0 (by omega)), e39]
    · have hp : ¬ P i = true := by
        intro hp
        rw [if_pos hp] at hs
        omega
      rw [brF (show ¬ (0 : Int32) < nI (n - fb_ct P i) from nI_nlt (a := 0) (by omega) (by omega)), nI_clamp (by omega), gd_eq ⟨nI_pos (by omega), by omega⟩, brT (Classical.not_not.mp (fun z => hp ((h i (by omega)).ne.mp z))), e39]
  · rintro q rfl
    refine ⟨nI v, ?_, rfl⟩
    show bX8_told_25 f (nI (n - fb_ct P v)) (nI v) = _
    unfold bX8_told_25
    rw [show n - fb_ct P v = 0 by omega, brF (by decide), nI_clamp (by omega), gd_eq ⟨nI_pos (by omega), by omega⟩, brF ((h v hv).ne.mpr hb)]
