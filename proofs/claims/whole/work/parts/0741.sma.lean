/-! the smallest sets -/
def stw (l b : Nat) : Nat := if l = 0 then 1 else 1 + 2 * b + 2 ^ l
def Bn (l : Nat) : Nat := if l = 0 then 1 else 2 ^ (l - 1)
def bn (l s : Nat) : Nat := if l = 0 then s - 1 else (s - 2 ^ l) / 2
def ofS (n s : Nat) : Bool := decide (fb_ct s.testBit 32 = n)
def odt (l s : Nat) : Bool := s.testBit 0 && s.testBit l
theorem two_l {l : Nat} (h : l ≠ 0) : 2 ^ l = 2 * 2 ^ (l - 1) := by
  rw [show 2 ^ l = 2 ^ ((l - 1) + 1) by rw [show l - 1 + 1 = l by omega], Nat.pow_succ, Nat.mul_comm]
theorem top_bit {l s : Nat} (hs : s < 2 ^ (l + 1)) : s.testBit l = decide (2 ^ l ≤ s) := by
  rcases Nat.lt_or_ge s (2 ^ l) with h | h
  · rw [Nat.testBit_lt_two_pow h, decide_eq_false (by omega)]
  · rw [decide_eq_true h]
    have e : s = 2 ^ l + (s - 2 ^ l) := by omega
    rw [e, Nat.testBit_two_pow_add_eq, Nat.testBit_lt_two_pow (by rw [Nat.pow_succ] at hs; omega)]
    rfl
theorem odd_bit (s : Nat) : s.testBit 0 = decide (s % 2 = 1) := Nat.testBit_zero s
theorem bn_yes {l s : Nat} (hs : s < 2 ^ (l + 1)) (h1 : 1 ≤ s) (h : odt l s = true) : stw l (bn l s) = s ∧ bn l (s + 1) = bn l s + 1 ∧ bn l s < Bn l := by
  unfold odt at h
  rw [Bool.and_eq_true, top_bit hs, odd_bit, decide_eq_true_iff, decide_eq_true_iff] at h
  unfold stw bn Bn
  by_cases e : l = 0
  · subst e
    simp only [if_true]
    rw [show 2 ^ (0 + 1) = 2 from rfl] at hs
    omega
  · simp only [if_neg e]
    have e2 := two_l e
    rw [Nat.pow_succ] at hs
    generalize 2 ^ (l - 1) = z at e2 ⊢
    generalize 2 ^ l = y at *
    omega
theorem bn_no {l s : Nat} (hs : s < 2 ^ (l + 1)) (h1 : 1 ≤ s) (h : odt l s = false) : bn l (s + 1) = bn l s := by
  unfold odt at h
  rw [Bool.and_eq_false_iff, top_bit hs, odd_bit, decide_eq_false_iff_not, decide_eq_false_iff_not] at h
  unfold bn
  by_cases e : l = 0
  · subst e
    rw [show 2 ^ (0 + 1) = 2 from rfl] at hs
    simp only [Nat.pow_zero] at h
    omega
  · simp only [if_neg e]
    have e2 := two_l e
    rw [Nat.pow_succ] at hs
    generalize 2 ^ (l - 1) = z at e2 ⊢
    generalize 2 ^ l = y at *
    omega
theorem bn_1 {l : Nat} : bn l 1 = 0 := by
  unfold bn
  by_cases e : l = 0
  · simp [e]
  · have e2 := two_l e
    have := Nat.two_pow_pos (l - 1)
    rw [if_neg e]
    omega
theorem bn_end {l : Nat} : bn l (2 * 2 ^ l) = Bn l := by
  unfold bn Bn
  by_cases e : l = 0
  · subst e; simp
  · have e2 := two_l e
    rw [if_neg e, if_neg e]
    omega
theorem bn_stw {l b : Nat} (hb : b < Bn l) : bn l (stw l b) = b ∧ 1 ≤ stw l b ∧ stw l b < 2 * 2 ^ l := by
  unfold bn Bn stw at *
  by_cases e : l = 0
  · subst e; simp at *; omega
  · simp only [if_neg e] at *
    have e2 := two_l e
    generalize 2 ^ (l - 1) = z at *
    generalize 2 ^ l = y at *
    omega
theorem stw_odt {l b : Nat} (hb : b < Bn l) : odt l (stw l b) = true := by
  have h := (bn_stw hb).2.2
  rw [Nat.mul_comm, ← Nat.pow_succ] at h
  unfold odt
  rw [top_bit h, odd_bit, Bool.and_eq_true, decide_eq_true_iff, decide_eq_true_iff]
  unfold stw Bn at *
  by_cases e : l = 0
  · subst e; simp
  · simp only [if_neg e] at *
    have e2 := two_l e
    generalize 2 ^ (l - 1) = z at *
    generalize 2 ^ l = y at *
    omega
/-- the fewest sums of those of the first b, and how many have them -/
def cf (n l : Nat) : Nat → Nat × Nat
  | 0 => (1000, 0)
  | b + 1 => if ofS n (stw l b) then (if own (stw l b) l < (cf n l b).1 then (own (stw l b) l, 1) else if own (stw l b) l = (cf n l b).1 then ((cf n l b).1, (cf n l b).2 + 1) else cf n l b) else cf n l b
theorem own_le (s l : Nat) : own s l ≤ 32 := fb_ct_le _ _
def mn (n l f b : Nat) : Bool := ofS n (stw l b) && decide (own (stw l b) l = f)
theorem cf_ok (n l : Nat) : ∀ b, (cf n l b).2 = fb_ct (mn n l (cf n l b).1) b ∧ (∀ c, c < b → ofS n (stw l c) = true → (cf n l b).1 ≤ own (stw l c) l) ∧ ((cf n l b).2 = 0 → (cf n l b).1 = 1000) ∧ ((cf n l b).2 = 0 → ∀ c, c < b → ofS n (stw l c) = false) ∧ (cf n l b).2 ≤ b := by
  intro b
  induction b with
  | zero => exact ⟨rfl, fun c hc => absurd hc (by omega), fun _ => rfl, fun _ c hc => absurd hc (by omega), Nat.le_refl _⟩
  | succ b ih =>
    obtain ⟨i1, i2, i3, i4, i5⟩ := ih
    have ho := own_le (stw l b) l
    by_cases hv : ofS n (stw l b) = true
    · by_cases h1 : own (stw l b) l < (cf n l b).1
      · have e : cf n l (b + 1) = (own (stw l b) l, 1) := by
          show (if _ then (if _ then _ else _) else _) = _
          rw [if_pos hv, if_pos h1]
        rw [e]
        refine ⟨?_, fun c hc hcv => ?_, fun z => absurd z (by show ¬ (1 = 0); omega), fun z => absurd z (by show ¬ (1 = 0); omega), by show 1 ≤ b + 1; omega⟩
        · show 1 = fb_ct (mn n l (own (stw l b) l)) (b + 1)
          rw [fb_ct_succ, fb_ct_zero.mpr, if_pos]
          · unfold mn; rw [hv]; simp
          · intro c hc
            unfold mn
            by_cases hcv : ofS n (stw l c) = true
            · have := i2 c hc hcv
              rw [decide_eq_false (by omega), Bool.and_false]
            · rw [show ofS n (stw l c) = false by simpa using hcv, Bool.false_and]
        · show own (stw l b) l ≤ own (stw l c) l
          by_cases ec : c = b
          · subst ec; omega
          · have := i2 c (by omega) hcv
            omega
      · by_cases h2 : own (stw l b) l = (cf n l b).1
        · have e : cf n l (b + 1) = ((cf n l b).1, (cf n l b).2 + 1) := by
            show (if _ then (if _ then _ else if _ then _ else _) else _) = _
            rw [if_pos hv, if_neg h1, if_pos h2]
          rw [e]
          refine ⟨?_, fun c hc hcv => ?_, fun z => absurd z (by show ¬ (_ + 1 = 0); omega), fun z => absurd z (by show ¬ (_ + 1 = 0); omega), by show _ + 1 ≤ b + 1; omega⟩
          · show (cf n l b).2 + 1 = fb_ct (mn n l (cf n l b).1) (b + 1)
            rw [fb_ct_succ, ← i1, if_pos]
            unfold mn; rw [hv, h2]; simp
          · show (cf n l b).1 ≤ own (stw l c) l
            by_cases ec : c = b
            · subst ec; omega
            · exact i2 c (by omega) hcv
        · have e : cf n l (b + 1) = cf n l b := by
            show (if _ then (if _ then _ else if _ then _ else _) else _) = _
            rw [if_pos hv, if_neg h1, if_neg h2]
          rw [e]
          refine ⟨?_, fun c hc hcv => ?_, i3, fun z => ?_, by omega⟩
          · rw [fb_ct_succ, ← i1, if_neg (by unfold mn; rw [decide_eq_false h2, Bool.and_false]; decide), Nat.add_zero]
          · by_cases ec : c = b
            · subst ec; omega
            · exact i2 c (by omega) hcv
          · have := i3 z
            omega
    · have e : cf n l (b + 1) = cf n l b := by
        show (if _ then (if _ then _ else if _ then _ else _) else _) = _
        rw [if_neg hv]
      rw [e]
      have hv2 : ofS n (stw l b) = false := by simpa using hv
      refine ⟨?_, fun c hc hcv => ?_, i3, fun z c hc => ?_, by omega⟩
      · rw [fb_ct_succ, ← i1, if_neg (by unfold mn; rw [hv2, Bool.false_and]; decide), Nat.add_zero]
      · by_cases ec : c = b
        · subst ec; exact absurd hcv hv
        · exact i2 c (by omega) hcv
      · by_cases ec : c = b
        · subst ec; exact hv2
        · exact i4 z c (by omega)
def tld (n l : Nat) : Prop := (n = 1 ∧ l = 0) ∨ (2 ≤ n ∧ n ≤ 8 ∧ n ≤ l + 1 ∧ l ≤ 14)
theorem ex_fin : ∀ n, n < 9 → ∀ l, l < 15 → 2 ≤ n → n ≤ l + 1 → 2 ^ (n - 2) - 1 < Bn l ∧ ofS n (stw l (2 ^ (n - 2) - 1)) = true := by decide +kernel
theorem cf_pos {n l : Nat} (h : tld n l) : 0 < (cf n l (Bn l)).2 := by
  rcases Nat.eq_zero_or_pos (cf n l (Bn l)).2 with z | z
  · have h4 := (cf_ok n l (Bn l)).2.2.2.1 z
    rcases h with ⟨rfl, rfl⟩ | ⟨h1, h2, h3, h5⟩
    · have := h4 0 (by decide)
      exact absurd this (by decide +kernel)
    · obtain ⟨e1, e2⟩ := ex_fin n (by omega) l (by omega) h1 h3
      rw [h4 _ e1] at e2
      cases e2
  · exact z
