/-! a long reversed -/
def sw (s i : Nat) : Nat := if i / s % 2 = 1 then i - s else i + s
theorem swap_eq {x M : Int64} {s : Nat} (hs : 0 < s) (hs2 : s < 64) (hM : ∀ j, j < 64 → bi M j = decide (j / s % 2 = 0)) {i : Nat} (hi : i < 64) (hd : 64 % (2 * s) = 0) :
    bi (((x &&& M) <<< ((nI s).toInt64 &&& 63)) ||| ((x.toUInt64 >>> ((nI s).toInt64.toUInt64 &&& Int64.toUInt64 63)).toInt64 &&& M)) i = bi x (sw s i) := by
  rw [bi_or, bi_shl _ hs2 hi, bi_and, bi_and, bi_ushr _ hs2, hM i hi]
  unfold sw
  by_cases h : i / s % 2 = 1
  · have h1 : s ≤ i := by
      rcases Nat.lt_or_ge i s with z | z
      · rw [Nat.div_eq_of_lt z] at h; omega
      · exact z
    have h2 : (i - s) / s % 2 = 0 := by
      have e : i / s = (i - s) / s + 1 := by
        rw [← Nat.add_div_right (i - s) hs, Nat.sub_add_cancel h1]
      omega
    rw [if_pos h, decide_eq_true h1, hM _ (by omega), decide_eq_true h2, decide_eq_false (by omega)]
    simp
  · have h0 : i / s % 2 = 0 := by omega
    rw [if_neg h, decide_eq_true h0]
    by_cases h1 : s ≤ i
    · have h2 : ¬ (i - s) / s % 2 = 0 := by
        have e : i / s = (i - s) / s + 1 := by
          rw [← Nat.add_div_right (i - s) hs, Nat.sub_add_cancel h1]
        omega
      rw [hM _ (by omega), decide_eq_false h2]
      simp
    · rw [decide_eq_false h1]
      simp
def bl (i : Nat) : Nat := 16 * (3 - i / 16) + i % 16
theorem rev_idx : ∀ i, i < 64 → sw 1 (sw 2 (sw 4 (sw 8 (bl i)))) = 63 - i ∧ bl i < 64 ∧ sw 8 (bl i) < 64 ∧ sw 4 (sw 8 (bl i)) < 64 ∧ sw 2 (sw 4 (sw 8 (bl i))) < 64 := by decide +kernel
theorem mask1 : ∀ j, j < 64 → bi (6148914691236517205 : Int64) j = decide (j / 1 % 2 = 0) := by decide +kernel
theorem mask2 : ∀ j, j < 64 → bi (3689348814741910323 : Int64) j = decide (j / 2 % 2 = 0) := by decide +kernel
theorem mask4 : ∀ j, j < 64 → bi (1085102592571150095 : Int64) j = decide (j / 4 % 2 = 0) := by decide +kernel
theorem mask8 : ∀ j, j < 64 → bi (71777214294589695 : Int64) j = decide (j / 8 % 2 = 0) := by decide +kernel
theorem mask16 : ∀ j, j < 64 → bi (4294901760 : Int64) j = decide (j / 16 = 1) := by decide +kernel
theorem reverse_eq (x : Int64) : ∃ y, fJ13_reverse_067f4 x = some y ∧ ∀ i, i < 64 → bi y i = bi x (63 - i) := by
  unfold fJ13_reverse_067f4
  obtain ⟨y1, e1⟩ : ∃ y1, y1 = ((x &&& (6148914691236517205 : Int64)) <<< ((1 : Int32).toInt64 &&& 63)) ||| (((x.toUInt64 >>> ((1 : Int32).toInt64.toUInt64 &&& Int64.toUInt64 63)).toInt64) &&& (6148914691236517205 : Int64)) := ⟨_, rfl⟩
  rw [lt_v e1.symm]
  obtain ⟨y2, e2⟩ : ∃ y2, y2 = ((y1 &&& (3689348814741910323 : Int64)) <<< ((2 : Int32).toInt64 &&& 63)) ||| (((y1.toUInt64 >>> ((2 : Int32).toInt64.toUInt64 &&& Int64.toUInt64 63)).toInt64) &&& (3689348814741910323 : Int64)) := ⟨_, rfl⟩
  rw [lt_v e2.symm]
  obtain ⟨y3, e3⟩ : ∃ y3, y3 = ((y2 &&& (1085102592571150095 : Int64)) <<< ((4 : Int32).toInt64 &&& 63)) ||| (((y2.toUInt64 >>> ((4 : Int32).toInt64.toUInt64 &&& Int64.toUInt64 63)).toInt64) &&& (1085102592571150095 : Int64)) := ⟨_, rfl⟩
  rw [lt_v e3.symm]
  unfold fJ13_reverseBytes_067f4
  obtain ⟨y4, e4⟩ : ∃ y4, y4 = ((y3 &&& (71777214294589695 : Int64)) <<< ((8 : Int32).toInt64 &&& 63)) ||| (((y3.toUInt64 >>> ((8 : Int32).toInt64.toUInt64 &&& Int64.toUInt64 63)).toInt64) &&& (71777214294589695 : Int64)) := ⟨_, rfl⟩
  rw [lt_v e4.symm]
  refine ⟨_, rfl, fun i hi => ?_⟩
  obtain ⟨r1, r2, r3, r4, r5⟩ := rev_idx i hi
  have s1 : ∀ j, j < 64 → bi y1 j = bi x (sw 1 j) := fun j hj => by rw [e1]; exact swap_eq (s := 1) (by omega) (by omega) mask1 hj (by decide)
  have s2 : ∀ j, j < 64 → bi y2 j = bi y1 (sw 2 j) := fun j hj => by rw [e2]; exact swap_eq (s := 2) (by omega) (by omega) mask2 hj (by decide)
  have s3 : ∀ j, j < 64 → bi y3 j = bi y2 (sw 4 j) := fun j hj => by rw [e3]; exact swap_eq (s := 4) (by omega) (by omega) mask4 hj (by decide)
  have s4 : ∀ j, j < 64 → bi y4 j = bi y3 (sw 8 j) := fun j hj => by rw [e4]; exact swap_eq (s := 8) (by omega) (by omega) mask8 hj (by decide)
  rw [← r1, ← s1 _ r5, ← s2 _ r4, ← s3 _ r3, ← s4 _ r2]
  rw [show (48 : Int32) = nI 48 from rfl, show (16 : Int32) = nI 16 from rfl, bi_or, bi_or, bi_or, bi_shl _ (by omega) hi, bi_shl _ (by omega) hi, bi_and, bi_and, bi_ushr _ (by omega), bi_ushr _ (by omega), mask16 i hi]
  unfold bl
  rcases (show i / 16 = 0 ∨ i / 16 = 1 ∨ i / 16 = 2 ∨ i / 16 = 3 by omega) with h | h | h | h
  · rw [h, decide_eq_false (show ¬ 48 ≤ i by omega), decide_eq_false (show ¬ 16 ≤ i by omega), show 16 * (3 - 0) + i % 16 = i + 48 by omega]
    simp
  · rw [h, decide_eq_false (show ¬ 48 ≤ i by omega), decide_eq_true (show 16 ≤ i by omega), mask16 _ (by omega), decide_eq_false (show ¬ (i - 16) / 16 = 1 by omega), bi_big (show 64 ≤ i + 48 by omega), show 16 * (3 - 1) + i % 16 = i + 16 by omega]
    simp
  · rw [h, decide_eq_false (show ¬ 48 ≤ i by omega), decide_eq_true (show 16 ≤ i by omega), mask16 _ (by omega), decide_eq_true (show (i - 16) / 16 = 1 by omega), bi_big (show 64 ≤ i + 48 by omega), show 16 * (3 - 2) + i % 16 = i - 16 by omega]
    simp
  · rw [h, decide_eq_true (show 48 ≤ i by omega), decide_eq_true (show 16 ≤ i by omega), mask16 _ (by omega), decide_eq_false (show ¬ (i - 16) / 16 = 1 by omega), bi_big (show 64 ≤ i + 48 by omega), show 16 * (3 - 3) + i % 16 = i - 48 by omega]
    simp
theorem mirrored_eq {x : Int64} (h : ∀ v, 41 ≤ v → bi x v = false) : ∃ y, fX7_mirrored x = some y ∧ (∀ i, i ≤ 40 → bi y i = bi x (40 - i)) ∧ ∀ i, 41 ≤ i → bi y i = false := by
  obtain ⟨z, h1, h2⟩ := reverse_eq x
  unfold fX7_mirrored
  rw [bd_eq h1]
  refine ⟨_, rfl, fun i hi => ?_, fun i hi => ?_⟩
  · rw [show (23 : Int32) = nI 23 from rfl, bi_ushr _ (by omega), h2 _ (by omega), show 63 - (i + 23) = 40 - i by omega]
  · rw [show (23 : Int32) = nI 23 from rfl, bi_ushr _ (by omega)]
    exact bi_big (by omega)
