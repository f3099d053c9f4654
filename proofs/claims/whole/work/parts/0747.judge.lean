noncomputable def tieB (p q : Nat) : Bool := @decide (∃ k, lowN (p ^^^ q) k ∧ p.testBit k = true) (Classical.propDecidable _)
noncomputable def bet (p g q h : Nat) : Bool := decide (g * bs q < h * bs p) || (decide (g * bs q = h * bs p) && (decide (bs q < bs p) || (decide (bs q = bs p) && tieB p q)))
theorem lowN_ex {u : Nat} (h : u ≠ 0) : ∃ k, lowN u k := by
  have hex : ∃ k, u.testBit k = true := by
    refine Classical.byContradiction fun hne => h ?_
    apply Nat.eq_of_testBit_eq
    intro i
    rw [Nat.zero_testBit]
    cases e : u.testBit i with
    | false => rfl
    | true => exact absurd ⟨i, e⟩ hne
  obtain ⟨k0, hk0⟩ := hex
  have ind : ∀ n k, k ≤ n → u.testBit k = true → ∃ k, lowN u k := by
    intro n
    induction n with
    | zero => intro k hk h1; exact ⟨k, h1, fun i hi => absurd hi (by omega)⟩
    | succ n ih =>
      intro k hk h1
      by_cases hl : ∃ i, i < k ∧ u.testBit i = true
      · obtain ⟨i, i1, i2⟩ := hl
        exact ih i (by omega) i2
      · refine ⟨k, h1, fun i hi => ?_⟩
        cases e : u.testBit i with
        | false => rfl
        | true => exact absurd ⟨i, hi, e⟩ hl
  exact ind k0 k0 (Nat.le_refl _) hk0
theorem lowN_one {u k j : Nat} (h : lowN u k) (h2 : lowN u j) : k = j := by
  rcases Nat.lt_trichotomy k j with z | z | z
  · have := h2.2 k z; rw [h.1] at this; cases this
  · exact z
  · have := h.2 j z; rw [h2.1] at this; cases this
theorem tieB_eq {p q k : Nat} (h : lowN (p ^^^ q) k) : tieB p q = p.testBit k := by
  unfold tieB
  rw [Bool.eq_iff_iff, @decide_eq_true_iff _ (Classical.propDecidable _)]
  constructor
  · rintro ⟨j, j1, j2⟩
    rw [lowN_one h j1]; exact j2
  · intro h2; exact ⟨k, h, h2⟩
theorem lowN_lt {u k n : Nat} (h : lowN u k) (hu : u < 2 ^ n) : k < n := by
  rcases Nat.lt_or_ge k n with z | z
  · exact z
  · have := h.1
    rw [Nat.testBit_lt_two_pow (Nat.lt_of_lt_of_le hu (Nat.pow_le_pow_right (by omega) z))] at this
    cases this
theorem xor_ne {p q : Nat} (h : p ≠ q) : p ^^^ q ≠ 0 := by
  intro z
  refine h (Nat.eq_of_testBit_eq fun i => ?_)
  have e := Nat.testBit_xor p q i
  rw [z, Nat.zero_testBit] at e
  revert e
  cases p.testBit i <;> cases q.testBit i <;> simp
theorem z32 : (0 : Int32) = nI 4294967296 := by decide
theorem neg_nI {u : Nat} (h : u ≤ 4294967296) : -nI u = nI (4294967296 - u) := by
  rw [← Int32.zero_sub, z32, pk_sub h]
theorem low_and {p u k : Nat} (hp : p < 2 ^ 31) (hu : u < 2 ^ 31) (h : lowN u k) (hk : k < 31) : ((nI p &&& nI u) &&& (-nI u)) = 0 ↔ p.testBit k = false := by
  have hpos := low_pos h
  have hb : ∀ i, i < 32 → bt ((nI p &&& nI u) &&& (-nI u)) i = (p.testBit i && decide (i = k)) := by
    intro i hi
    have e1 : (4294967296 - u).testBit i = !(u - 1).testBit i := by
      rw [show 4294967296 - u = 2 ^ 32 - ((u - 1) + 1) by omega, Nat.testBit_two_pow_sub_succ (by omega), decide_eq_true hi, Bool.true_and]
    rw [b_and, b_and, neg_nI (by omega), bt_nI (by omega), bt_nI (by omega), bt_nI (by omega), e1, low_pred h]
    by_cases hik : i < k
    · rw [if_pos hik, decide_eq_false (by omega)]; simp
    · rw [if_neg hik]
      by_cases e : i = k
      · subst e; rw [h.1]; simp
      · rw [decide_eq_true e, decide_eq_false e]
        cases p.testBit i <;> cases u.testBit i <;> rfl
  constructor
  · intro z
    have := hb k (by omega)
    rw [z, b_0, decide_eq_true rfl, Bool.and_true] at this
    exact this.symm
  · intro z
    apply b_ext
    intro i hi
    rw [hb i hi, b_0]
    by_cases e : i = k
    · subst e; rw [z]; rfl
    · rw [decide_eq_false e, Bool.and_false]
theorem judge7 {p g q h : Nat} (hp : p < 2 ^ 12) (hq : q < 2 ^ 12) (hpq : p ≠ q) (hq0 : q ≠ 0) (hg : g ≤ 81) (hh : h ≤ 81) : fX5_judge (nI p) (nI g) (nI q) (nI h) (nI (bs q)) = some (if bet p g q h then (nI p, nI g, nI (bs p)) else (nI q, nI h, nI (bs q))) := by
  have b1 := bs_le p
  have b2 := bs_le q
  have m1 : g * bs q ≤ 81 * 12 := Nat.mul_le_mul hg b2
  have m2 : h * bs p ≤ 81 * 12 := Nat.mul_le_mul hh b1
  unfold fX5_judge bX5_judge_51 bet
  simp only [lt_]
  rw [bd_eq (bits7 hp), brF (nI_ne0 (by omega) (by omega)), pk_mul, pk_mul]
  by_cases c1 : g * bs q < h * bs p
  · rw [brT (nI_lt c1 (by omega)), decide_eq_true c1, Bool.true_or, if_pos rfl]
  · rw [brF (nI_nlt (by omega) (by omega)), decide_eq_false c1, Bool.false_or]
    by_cases c2 : g * bs q = h * bs p
    · rw [brT (by rw [c2]), decide_eq_true c2, Bool.true_and]
      unfold fX5_isAhead bX5_isAhead_32 bX5_isAhead_36
      simp only [lt_]
      have g0 : gd ((0 : Int32) = 0 ∨ (0 : Int32) = 1) (some (0 : Int32)) = some 0 := gd_eq (Or.inl rfl)
      have g1 : gd ((1 : Int32) = 0 ∨ (1 : Int32) = 1) (some (1 : Int32)) = some 1 := gd_eq (Or.inr rfl)
      by_cases c3 : bs q < bs p
      · rw [brT (nI_lt c3 (by omega)), decide_eq_true c3, Bool.true_or, if_pos rfl, gd_eq (by decide), bd_eq rfl, brF (by decide)]
      · rw [brF (nI_nlt (by omega) (by omega)), decide_eq_false c3, Bool.false_or]
        by_cases c4 : bs q = bs p
        · obtain ⟨k, hk⟩ := lowN_ex (xor_ne hpq)
          have hx : p ^^^ q < 2 ^ 12 := Nat.xor_lt_two_pow hp hq
          have hk12 := lowN_lt hk hx
          rw [brT (by rw [c4]), decide_eq_true c4, Bool.true_and, tieB_eq hk, nx_xor]
          by_cases c5 : p.testBit k = true
          · rw [brF (fun z => by rw [(low_and (by omega) (by omega) hk (by omega)).mp z] at c5; cases c5), gd_eq (by decide), bd_eq rfl, brF (by decide), if_pos c5]
          · rw [brT ((low_and (by omega) (by omega) hk (by omega)).mpr (by simpa using c5)), gd_eq (by decide), bd_eq rfl, brT rfl, if_neg c5]
        · rw [brF (fun z => c4 ((nI_eq (by omega) (by omega)).mp z).symm), decide_eq_false c4, Bool.false_and, gd_eq (by decide), bd_eq rfl, brT rfl, if_neg (by decide)]
    · rw [brF (fun z => c2 ((nI_eq (by omega) (by omega)).mp z)), decide_eq_false c2, Bool.false_and, if_neg (by decide)]
theorem isLess8 {p g q h : Nat} (hp : p < 2 ^ 12) (hq : q < 2 ^ 12) (hpq : p ≠ q) (hg : g ≤ 81) (hh : h ≤ 81) : fX8_isLess (nI p) (nI g) (nI h) (nI q) = some (if bet p g q h then 1 else 0) := by
  have b1 := bs_le p
  have b2 := bs_le q
  have m1 : g * bs q ≤ 81 * 12 := Nat.mul_le_mul hg b2
  have m2 : h * bs p ≤ 81 * 12 := Nat.mul_le_mul hh b1
  have e41 : ∀ (hd : ¬ (g * bs q = h * bs p) ∨ ¬ bs p = bs q), bX8_isLess_41 (nI p) (nI (g * bs q)) (nI (h * bs p)) (nI h) (nI q) = some (if bet p g q h then 1 else 0) := by
    intro hd
    unfold bX8_isLess_41 bet
    rw [bd_eq (bits8 (by omega)), bd_eq (bits8 (by omega))]
    by_cases c2 : g * bs q = h * bs p
    · rw [brT (by rw [c2]), decide_eq_false (show ¬ g * bs q < h * bs p by omega), decide_eq_true c2, Bool.false_or, Bool.true_and, decide_eq_false (show ¬ bs q = bs p from fun z => (hd.resolve_left (fun y => y c2)) z.symm), Bool.false_and, Bool.or_false]
      by_cases c3 : bs q < bs p
      · rw [brF (nI_ge c3 (by omega)), gd_eq (by decide), decide_eq_true c3, if_pos rfl]
      · rw [brT (nI_le (by omega) (by omega)), gd_eq (by decide), decide_eq_false c3, if_neg (by decide)]
    · rw [brF (fun z => c2 ((nI_eq (by omega) (by omega)).mp z)), decide_eq_false c2, Bool.false_and, Bool.or_false]
      by_cases c1 : g * bs q < h * bs p
      · rw [brF (nI_ge c1 (by omega)), gd_eq (by decide), decide_eq_true c1, if_pos rfl]
      · rw [brT (nI_le (by omega) (by omega)), gd_eq (by decide), decide_eq_false c1, if_neg (by decide)]
  unfold fX8_isLess
  simp only [lt_]
  rw [bd_eq (bits8 (by omega)), pk_mul, bd_eq (bits8 (by omega)), pk_mul, bd_eq (bits8 (by omega)), bd_eq (bits8 (by omega))]
  by_cases c2 : g * bs q = h * bs p
  · rw [brT (by rw [c2])]
    by_cases c4 : bs p = bs q
    · rw [brT (by rw [c4]), nx_xor]
      obtain ⟨k, hk⟩ := lowN_ex (xor_ne hpq)
      have hx : p ^^^ q < 2 ^ 12 := Nat.xor_lt_two_pow hp hq
      have hk12 := lowN_lt hk hx
      have hbet : bet p g q h = p.testBit k := by
        unfold bet
        rw [decide_eq_false (show ¬ g * bs q < h * bs p by omega), decide_eq_true c2, decide_eq_false (show ¬ bs q < bs p by omega), decide_eq_true c4.symm, tieB_eq hk]
        simp
      rw [hbet]
      refine run_val ?_
      refine run_inv0 (step := sX8_isLess_92 (nI p) (nI (p ^^^ q)) (nI h) (nI q)) k (fun i x => x = nI i) _ ?_ ?_ rfl
      · rintro i x hi rfl
        show (∃ q2, bX8_isLess_92 (nI p) (nI (p ^^^ q)) (nI h) (nI q) (nI i) = _ ∧ _) ∨ _
        unfold bX8_isLess_92
        rw [sb (by omega) (by omega), brT (b1_0.mpr (hk.2 i hi))]
        exact Or.inl ⟨_, rfl, nI_1 i⟩
      · rintro x rfl
        show ∃ t, bX8_isLess_92 (nI p) (nI (p ^^^ q)) (nI h) (nI q) (nI k) = _ ∧ _
        unfold bX8_isLess_92
        rw [sb (by omega) (by omega), brF (fun z => by rw [b1_0, hk.1] at z; cases z), sb (by omega) (by omega)]
        by_cases c5 : p.testBit k = true
        · rw [brT (b1_1.mpr c5), gd_eq (by decide), if_pos c5]
          exact ⟨_, rfl, rfl⟩
        · rw [brF (fun z => c5 (b1_1.mp z)), gd_eq (by decide), if_neg c5]
          exact ⟨_, rfl, rfl⟩
    · rw [brF (fun z => c4 ((nI_eq (by omega) (by omega)).mp z))]
      exact e41 (Or.inr c4)
  · rw [brF (fun z => c2 ((nI_eq (by omega) (by omega)).mp z))]
    exact e41 (Or.inl c2)
