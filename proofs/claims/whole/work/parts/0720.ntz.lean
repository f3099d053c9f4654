/-! the lowest bit -/
/-- k is the lowest bit of n -/
def lowN (n k : Nat) : Prop := n.testBit k = true ∧ ∀ i, i < k → n.testBit i = false
theorem lowN_form {n k : Nat} (h : lowN n k) : ∃ m, n = 2 ^ k * (2 * m + 1) := by
  have h1 : n % 2 ^ k = 0 := by
    apply Nat.eq_of_testBit_eq
    intro i
    rw [Nat.testBit_mod_two_pow, Nat.zero_testBit]
    by_cases hi : i < k
    · rw [h.2 i hi, Bool.and_false]
    · rw [decide_eq_false hi, Bool.false_and]
  have h2 : n / 2 ^ k % 2 = 1 := by
    have := h.1
    rw [Nat.testBit_eq_decide_div_mod_eq] at this
    simpa using this
  refine ⟨n / 2 ^ k / 2, ?_⟩
  have e1 := Nat.div_add_mod n (2 ^ k)
  rw [h1, Nat.add_zero] at e1
  have e2 : n / 2 ^ k = 2 * (n / 2 ^ k / 2) + 1 := by omega
  rw [← e2]
  exact e1.symm
theorem low_pred {n k : Nat} (h : lowN n k) (i : Nat) : (n - 1).testBit i = if i < k then true else (n.testBit i && decide (i ≠ k)) := by
  obtain ⟨m, hm⟩ := lowN_form h
  have hp : 0 < 2 ^ k := Nat.two_pow_pos k
  have e : n - 1 = 2 ^ k * (2 * m) + (2 ^ k - 1) := by
    rw [hm, Nat.mul_add, Nat.mul_one]; omega
  rw [e, Nat.testBit_two_pow_mul_add _ (by omega)]
  by_cases hi : i < k
  · rw [if_pos hi, if_pos hi, Nat.testBit_two_pow_sub_one, decide_eq_true hi]
  · rw [if_neg hi, if_neg hi]
    have e2 : n.testBit i = (2 * m + 1).testBit (i - k) := by
      have e3 : n = 2 ^ k * (2 * m + 1) + 0 := by rw [Nat.add_zero]; exact hm
      rw [e3, Nat.testBit_two_pow_mul_add _ hp, if_neg hi]
    rw [e2]
    by_cases hk : i = k
    · subst hk
      rw [Nat.sub_self, Nat.testBit_zero]
      simp
    · obtain ⟨j, hj⟩ : ∃ j, i - k = j + 1 := ⟨i - k - 1, by omega⟩
      rw [hj, Nat.testBit_succ, Nat.testBit_succ, show 2 * m / 2 = m by omega, show (2 * m + 1) / 2 = m by omega, decide_eq_true hk, Bool.and_true]
theorem low_pos {n k : Nat} (h : lowN n k) : 1 ≤ n := by
  obtain ⟨m, hm⟩ := lowN_form h
  have hp : 0 < 2 ^ k := Nat.two_pow_pos k
  rw [hm]
  exact Nat.mul_pos hp (by omega)
theorem bt_nI {n i : Nat} (h : n < 2 ^ 32) : bt (nI n) i = n.testBit i := by
  have e : (nI n).toBitVec = BitVec.ofNat 32 n := rfl
  unfold bt
  rw [e, BitVec.getLsbD_ofNat]
  by_cases hi : i < 32
  · rw [decide_eq_true hi, Bool.true_and]
  · rw [decide_eq_false hi, Bool.false_and]
    exact (Nat.testBit_lt_two_pow (Nat.lt_of_lt_of_le h (Nat.pow_le_pow_right (by omega) (by omega)))).symm
noncomputable def ntB (y10 : Int32) : Option Int32 := br (0 < y10) (br (y10 ≤ (65536 : Int32)) (bJ6_numberOfTrailingZeros_0f7a4_34 y10 (1 : Int32)) (lt_ ((1 : Int32) + (16 : Int32)) (fun y13 => lt_ ((y10.toUInt32 >>> ((16 : Int32).toUInt32 &&& Int32.toUInt32 31)).toInt32) (fun y14 => bJ6_numberOfTrailingZeros_0f7a4_34 y14 y13)))) (some (y10 &&& (32 : Int32)))
theorem ntB_all : ∀ k, k < 32 → ntB (nI (2 ^ k - 1)) = some (nI k) := by decide +kernel
theorem ntz32 {n k : Nat} (hn : n < 2 ^ 32) (h : lowN n k) (hk : k < 32) : fJ6_numberOfTrailingZeros_0f7a4 (nI n) = some (nI k) := by
  show ntB ((nI n ^^^ (-1 : Int32)) &&& (nI n - (1 : Int32))) = _
  have e1 : nI n - (1 : Int32) = nI (n - 1) := pk_sub (low_pos h)
  have e : (nI n ^^^ (-1 : Int32)) &&& (nI n - (1 : Int32)) = nI (2 ^ k - 1) := by
    have h2 : 2 ^ k < 2 ^ 32 := Nat.pow_lt_pow_right (by omega) hk
    apply b_ext
    intro i hi
    rw [b_and, b_xor, e1, bt_nI hn, bt_nI (by omega), b_m1 i hi, low_pred h, bt_nI (by omega), Nat.testBit_two_pow_sub_one]
    by_cases hik : i < k
    · rw [if_pos hik, h.2 i hik, decide_eq_true hik]; rfl
    · rw [if_neg hik, decide_eq_false hik]
      by_cases e3 : i = k
      · subst e3; rw [h.1]; rfl
      · cases n.testBit i <;> simp
  rw [e]
  exact ntB_all k hk
theorem nI_mod (n : Nat) : nI n = nI (n % 2 ^ 32) := by
  apply Int32.toBitVec_inj.mp
  show BitVec.ofNat 32 n = BitVec.ofNat 32 (n % 2 ^ 32)
  apply BitVec.eq_of_toNat_eq
  rw [BitVec.toNat_ofNat, BitVec.toNat_ofNat, Nat.mod_mod]
theorem ntz64 {n k : Nat} (hn : n < 2 ^ 64) (h : lowN n k) (hk : k < 64) : fJ13_numberOfTrailingZeros_95d88 (lN n) = some (nI k) := by
  unfold fJ13_numberOfTrailingZeros_95d88
  rw [lN_i, show (32 : Int32) = nI 32 from rfl, wb_shr hn (by omega), lN_i]
  by_cases h32 : k < 32
  · have hl : lowN (n % 2 ^ 32) k := by
      refine ⟨by rw [Nat.testBit_mod_two_pow, decide_eq_true h32, h.1]; rfl, fun i hi => ?_⟩
      rw [Nat.testBit_mod_two_pow, h.2 i hi, Bool.and_false]
    have hlt : n % 2 ^ 32 < 2 ^ 32 := Nat.mod_lt _ (by omega)
    have hne : ¬ nI n = 0 := by
      intro z
      rw [nI_mod n] at z
      have e := bt_nI (i := k) hlt
      rw [z, b_0, hl.1] at e
      cases e
    rw [brF hne, nI_mod n, ntz32 hlt hl h32]
    rfl
  · have hz : nI n = 0 := by
      rw [nI_mod n]
      have e : n % 2 ^ 32 = 0 := by
        apply Nat.eq_of_testBit_eq
        intro i
        rw [Nat.testBit_mod_two_pow, Nat.zero_testBit]
        by_cases hi : i < 32
        · rw [h.2 i (by omega), Bool.and_false]
        · rw [decide_eq_false hi, Bool.false_and]
      rw [e]; rfl
    have hl : lowN (n / 2 ^ 32) (k - 32) := by
      refine ⟨by rw [Nat.testBit_div_two_pow, show k - 32 + 32 = k by omega]; exact h.1, fun i hi => ?_⟩
      rw [Nat.testBit_div_two_pow]
      exact h.2 _ (by omega)
    rw [brT hz, ntz32 (Nat.div_lt_of_lt_mul (by omega)) hl (by omega)]
    show some (nI 32 + nI (k - 32)) = _
    rw [nI_add, show 32 + (k - 32) = k by omega]
/-- k is the lowest bit of x -/
def low (x : Int64) (k : Nat) : Prop := k < 64 ∧ bi x k = true ∧ ∀ i, i < k → bi x i = false
theorem low.nat {n k : Nat} (hn : n < 2 ^ 64) (h : low (lN n) k) : lowN n k := ⟨by rw [← bi_lN hn]; exact h.2.1, fun i hi => by rw [← bi_lN hn]; exact h.2.2 i hi⟩
theorem leastOf_eq {x : Int64} {k : Nat} (h : low x k) : fX7_leastOf x = some (nI k) := by
  obtain ⟨n, hn, rfl⟩ := wb_of x
  unfold fX7_leastOf
  rw [ntz64 hn (h.nat hn) h.1]
  rfl
theorem clear_low {x : Int64} {k : Nat} (h : low x k) (i : Nat) : bi (x &&& (x - 1)) i = (bi x i && decide (i ≠ k)) := by
  obtain ⟨n, hn, rfl⟩ := wb_of x
  have hl := h.nat hn
  rw [bi_and, show (1 : Int64) = lN 1 from rfl, lN_sub (low_pos hl), bi_lN hn, bi_lN (by omega), low_pred hl]
  by_cases hik : i < k
  · rw [if_pos hik, hl.2 i hik]; rfl
  · rw [if_neg hik]
    cases n.testBit i <;> simp
