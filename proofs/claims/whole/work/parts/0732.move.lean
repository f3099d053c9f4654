/-- the guards of a number told within bounds, both ways -/
theorem in8_dec (x : Int32) {a b : Int32} : fX8_in x.toInt64 a.toInt64 b.toInt64 = some (if x < a ∨ b < x then 0 else 1) := by
  by_cases h : x < a ∨ b < x
  · rw [if_pos h]
    exact in8_no (h.imp wide_lt wide_lt)
  · rw [if_neg h]
    exact in8_yes (wide_nlt (fun z => h (Or.inl z))) (wide_nlt (fun z => h (Or.inr z)))
theorem m40 : (-40 : Int64) = (-40 : Int32).toInt64 := by decide
theorem p40 : (40 : Int64) = (40 : Int32).toInt64 := by decide
theorem p0 : (0 : Int64) = (0 : Int32).toInt64 := by decide
theorem p1 : (1 : Int64) = (1 : Int32).toInt64 := by decide
theorem p9 : (9 : Int64) = (9 : Int32).toInt64 := by decide
theorem in40_yes {y : Nat} (hy : y < 41) : fX8_in (nI y).toInt64 0 40 = some 1 := by
  rw [p0, p40, in8_dec, if_neg]
  intro h
  rcases h with h | h
  · exact nI_pos (by omega) h
  · exact nI_nlt (a := 40) (by omega) (by omega) h
theorem in40_no {x : Int32} (h : x < 0 ∨ nI 41 ≤ x) : fX8_in x.toInt64 0 40 = some 0 := by
  rw [p0, p40, in8_dec, if_pos]
  refine h.imp id (fun h => ?_)
  rw [Int32.le_iff_toInt_le] at h
  rw [Int32.lt_iff_toInt_lt]
  have e1 : (nI 41).toInt = 41 := by decide
  have e2 : (40 : Int32).toInt = 40 := by decide
  omega
theorem mv7_ok {x : Int64} {k a : Nat} (ha : a < 4) {d v : Int32} {sl : Nat → Int64} {sz : Int32} {ch : Nat → Int32} {bf : Nat → Int64} (hx : sl a = x) (hg : ∀ o, o < 41 → bi x o = true → ∃ y, y < 41 ∧ d * nI o + v = nI y) :
    ∃ m, (∀ y, bi m y = true ↔ y < 41 ∧ ∃ o, o < 41 ∧ bi x o = true ∧ d * nI o + v = nI y) ∧ run (sX7_move_47 (nI k) (nI a) d v sl sz ch bf) ((0 : Int64), (0 : Int32)) = run (sX7_move_47 (nI k) (nI a) d v sl sz ch bf) (m, nI 41) := by
  obtain ⟨q2, h1, h2, h3⟩ := run_go (step := sX7_move_47 (nI k) (nI a) d v sl sz ch bf) 41 (fun i q => (∀ y, bi q.1 y = true ↔ y < 41 ∧ ∃ o, o < i ∧ bi x o = true ∧ d * nI o + v = nI y) ∧ q.2 = nI i) (by
    rintro i ⟨m, p⟩ hi ⟨hm, rfl⟩
    show ∃ q2, bX7_move_47 (nI k) (nI a) d v sl sz ch bf m (nI i) = _ ∧ _
    unfold bX7_move_47 bX7_move_97
    simp only [lt_]
    rw [brF (show ¬ (40 : Int32) < nI i from nI_nlt (a := 40) (by omega) (by omega)), cl4 ha, g4 ha, hx, bd_eq (has_in hi)]
    by_cases hb : bi x i = true
    · obtain ⟨y, hy, e⟩ := hg i hi hb
      rw [if_pos hb, brF (by decide), e, bd_eq (isNum_in y hy), brF (by decide)]
      refine ⟨_, rfl, fun z => ?_, nI_1 i⟩
      show bi (m ||| ((1 : Int64) <<< ((nI y).toInt64 &&& 63))) z = true ↔ _
      rw [bi_or, bi_one (by omega), Bool.or_eq_true, hm, decide_eq_true_iff]
      constructor
      · rintro (⟨z1, o, o1, o2, o3⟩ | rfl)
        · exact ⟨z1, o, by omega, o2, o3⟩
        · exact ⟨hy, i, by omega, hb, e⟩
      · rintro ⟨z1, o, o1, o2, o3⟩
        by_cases eo : o = i
        · right
          subst eo
          rw [e] at o3
          exact ((nI_eq (by omega) (by omega)).mp o3).symm
        · exact Or.inl ⟨z1, o, by omega, o2, o3⟩
    · rw [if_neg hb, brT rfl]
      refine ⟨_, rfl, fun z => ?_, nI_1 i⟩
      rw [hm]
      constructor
      · rintro ⟨z1, o, o1, o2, o3⟩
        exact ⟨z1, o, by omega, o2, o3⟩
      · rintro ⟨z1, o, o1, o2, o3⟩
        refine ⟨z1, o, ?_, o2, o3⟩
        rcases Nat.lt_or_ge o i with h | h
        · exact h
        · exact absurd ((show o = i by omega) ▸ o2) hb) 41 0 ((0 : Int64), (0 : Int32)) rfl ⟨fun y => by
      show bi 0 y = true ↔ _
      rw [bi_0]
      constructor
      · intro h; cases h
      · rintro ⟨_, o, h, _⟩; omega, rfl⟩
  obtain ⟨m, p⟩ := q2
  cases h3
  exact ⟨m, h2, h1⟩
theorem mv7_no {x : Int64} {k a : Nat} (ha : a < 4) {d v : Int32} {sl : Nat → Int64} {sz : Int32} {ch : Nat → Int32} {bf : Nat → Int64} (hx : sl a = x) {o : Nat} (ho : o < 41) (hb : bi x o = true) (hn : d * nI o + v < 0 ∨ nI 41 ≤ d * nI o + v) :
    run (sX7_move_47 (nI k) (nI a) d v sl sz ch bf) ((0 : Int64), (0 : Int32)) = some (-2, sl, sz, ch, bf) := by
  refine run_val ?_
  have stp : ∀ i m, i < 41 → (∃ q2, sX7_move_47 (nI k) (nI a) d v sl sz ch bf (m, nI i) = some (.inl q2) ∧ q2.2 = nI (i + 1) ∧ ¬ i = o) ∨ (∃ t, sX7_move_47 (nI k) (nI a) d v sl sz ch bf (m, nI i) = some (.inr t) ∧ t = (-2, sl, sz, ch, bf)) := by
    intro i m hi
    show (∃ q2, bX7_move_47 (nI k) (nI a) d v sl sz ch bf m (nI i) = _ ∧ _) ∨ (∃ t, bX7_move_47 (nI k) (nI a) d v sl sz ch bf m (nI i) = _ ∧ _)
    unfold bX7_move_47 bX7_move_97
    simp only [lt_]
    rw [brF (show ¬ (40 : Int32) < nI i from nI_nlt (a := 40) (by omega) (by omega)), cl4 ha, g4 ha, hx, bd_eq (has_in hi)]
    by_cases hbi : bi x i = true
    · rw [if_pos hbi, brF (by decide)]
      rcases num_cases (d * nI i + v) with ⟨y, hy, e⟩ | hn2
      · rw [e, bd_eq (isNum_in y hy), brF (by decide)]
        refine Or.inl ⟨_, rfl, nI_1 i, ?_⟩
        intro e2
        rw [← e2, e] at hn
        rcases hn with hn | hn
        · exact nI_pos (by omega) hn
        · exact nI_ge hy (by omega) hn
      · rw [bd_eq (isNum_out hn2), brT rfl]
        exact Or.inr ⟨_, rfl, rfl⟩
    · rw [if_neg hbi, brT rfl]
      refine Or.inl ⟨_, rfl, nI_1 i, ?_⟩
      intro e2
      exact hbi (e2 ▸ hb)
  refine run_inv0 (step := sX7_move_47 (nI k) (nI a) d v sl sz ch bf) o (fun i q => q.2 = nI i) _ ?_ ?_ rfl
  · rintro i ⟨m, p⟩ hi hp
    cases hp
    rcases stp i m (by omega) with ⟨q2, h1, h2, _⟩ | h
    · exact Or.inl ⟨q2, h1, h2⟩
    · exact Or.inr h
  · rintro ⟨m, p⟩ hp
    cases hp
    rcases stp o m ho with ⟨q2, h1, h2, h3⟩ | h
    · exact absurd rfl h3
    · exact h
