theorem nI_z (a : Nat) : nI a + 0 = nI a := by rw [show (0 : Int32) = nI 0 from rfl, nI_add]; rfl
/-- in how many ways v is a sum of numbers of two slots -/
def wyP (sl : Nat → Int64) (a b v : Nat) : Nat → Bool := fun x => bi (sl a) x && (decide (x ≤ v) && bi (sl b) (v - x))
def wy (sl : Nat → Int64) (a b v : Nat) : Nat := fb_ct (wyP sl a b v) 41
theorem has_sub {sl : Nat → Int64} {nw : Nat → Int32} (h : RS sl nw) {b v i : Nat} (hb : b < 4) (hv : v ≤ 80) (hi : i < 41) : fX7_has (sl b) (nI v - nI i) = some (if (decide (i ≤ v) && bi (sl b) (v - i)) = true then 1 else 0) := by
  by_cases hle : i ≤ v
  · rw [pk_sub hle, decide_eq_true hle, Bool.true_and]
    by_cases h41 : v - i < 41
    · exact has_in h41
    · rw [has_out (Or.inr (nI_le (by omega) (by omega))), (h b hb).2 _ (by omega), if_neg (by decide)]
  · rw [has_out (Or.inl (pk_sneg (by omega) (by omega))), decide_eq_false hle, Bool.false_and, if_neg (by decide)]
theorem waysOf7 {sl : Nat → Int64} {nw : Nat → Int32} (h : RS sl nw) {a b v : Nat} (ha : a < 4) (hb : b < 4) (hv : v ≤ 80) : fX7_waysOf (sl a) (sl b) (nI v) = some (nI (wy sl a b v)) := by
  unfold fX7_waysOf
  refine run_all (step := sX7_waysOf_6 (sl a) (sl b) (nI v)) 41 (fun i => (nI (fb_ct (wyP sl a b v) i), nI i)) (nI (wy sl a b v)) ?_ ?_
  · intro i hi
    show bX7_waysOf_6 (sl a) (sl b) (nI v) (nI (fb_ct (wyP sl a b v) i)) (nI i) = _
    unfold bX7_waysOf_6 bX7_waysOf_37
    simp only [lt_]
    rw [brF (show ¬ (40 : Int32) < nI i from nI_nlt (a := 40) (by omega) (by omega)), bd_eq (has_in hi), bd_eq (has_sub h hb hv hi), fb_ct_succ]
    simp only [nI_1, nI_z]
    by_cases h1 : bi (sl a) i = true
    · rw [if_pos h1, brF (by decide)]
      by_cases h2 : (decide (i ≤ v) && bi (sl b) (v - i)) = true
      · rw [if_pos h2, brF (by decide), if_pos (show wyP sl a b v i = true by unfold wyP; rw [h1, h2]; rfl)]
      · rw [if_neg h2, brT rfl, if_neg (show ¬ wyP sl a b v i = true by unfold wyP; rw [h1, Bool.true_and]; exact h2)]; rfl
    · rw [if_neg h1, brT rfl, if_neg (show ¬ wyP sl a b v i = true by unfold wyP; simp [h1])]; rfl
  · show bX7_waysOf_6 (sl a) (sl b) (nI v) (nI (wy sl a b v)) (nI 41) = _
    unfold bX7_waysOf_6
    rw [brT (by decide)]
theorem waysOf8 {sl : Nat → Int64} {nw : Nat → Int32} (h : RS sl nw) {a b v : Nat} (ha : a < 4) (hb : b < 4) (hv : v ≤ 80) : fX8_waysOf (nI a) (nI b) (nI v) nw = some (nI (wy sl a b v)) := by
  have k0 : (0 : Int64) = (0 : Int32).toInt64 := by decide
  have k40 : (40 : Int64) = (40 : Int32).toInt64 := by decide
  unfold fX8_waysOf
  refine run_all (step := sX8_waysOf_6 (nI a) (nI b) (nI v) nw) 41 (fun i => (nI (fb_ct (wyP sl a b v) i), nI i)) (nI (wy sl a b v)) ?_ ?_
  · intro i hi
    show bX8_waysOf_6 (nI a) (nI b) (nI v) nw (nI (fb_ct (wyP sl a b v) i)) (nI i) = _
    unfold bX8_waysOf_6 bX8_waysOf_66 bX8_waysOf_67
    simp only [lt_]
    rw [brF (show ¬ (41 : Int32) ≤ nI i from nI_ge (b := 41) hi (by omega)), show (41 : Int32) = nI 41 from rfl, pk_mul, pk_mul, nI_add, nI_add, nI_clamp (by omega), gd_eq ⟨nI_pos (by omega), by omega⟩, (h a ha).1 i hi, fb_ct_succ]
    simp only [nI_1, nI_z]
    by_cases h1 : bi (sl a) i = true
    · rw [if_pos h1, brF (by decide)]
      by_cases hle : i ≤ v
      · rw [pk_sub hle, pk_sub (show i ≤ 41 * b + v by omega), nI_clamp (by omega)]
        by_cases h41 : v - i < 41
        · rw [bd_eq (in8_yes (by rw [k0]; exact wide_nlt (nI_pos (by omega))) (by rw [k40]; exact wide_nlt (show ¬ nI 40 < nI (v - i) from nI_nlt (by omega) (by omega)))), brF (by decide), gd_eq ⟨nI_pos (by omega), by omega⟩, show 41 * b + v - i = 41 * b + (v - i) by omega, (h b hb).1 _ h41]
          by_cases h2 : bi (sl b) (v - i) = true
          · rw [if_pos h2, brF (by decide), if_pos (show wyP sl a b v i = true by unfold wyP; rw [h1, h2, decide_eq_true hle]; rfl)]
          · rw [if_neg h2, brT rfl, if_neg (show ¬ wyP sl a b v i = true by unfold wyP; simp [h2])]; rfl
        · rw [bd_eq (in8_no (Or.inr (by rw [k40]; exact wide_lt (show nI 40 < nI (v - i) from nI_lt (by omega) (by omega))))), brT rfl, if_neg (show ¬ wyP sl a b v i = true by unfold wyP; simp [(h b hb).2 _ (show 41 ≤ v - i by omega)])]; rfl
      · rw [bd_eq (in8_no (Or.inl (by rw [k0]; exact wide_lt (pk_sneg (by omega) (by omega))))), brT rfl, if_neg (show ¬ wyP sl a b v i = true by unfold wyP; simp [hle])]; rfl
    · rw [if_neg h1, brT rfl, if_neg (show ¬ wyP sl a b v i = true by unfold wyP; simp [h1])]; rfl
  · show bX8_waysOf_6 (nI a) (nI b) (nI v) nw (nI (wy sl a b v)) (nI 41) = _
    unfold bX8_waysOf_6
    rw [brT (by decide)]
theorem core_ways {sl : Nat → Int64} {nw : Nat → Int32} (h : RS sl nw) (q w z : Int32) : ∃ r, fX7_ways q w z sl = some r ∧ fX8_ways q w z nw = some r := by
  have k0 : (0 : Int64) = (0 : Int32).toInt64 := by decide
  have k80 : (80 : Int64) = (80 : Int32).toInt64 := by decide
  rcases slot_cases q with ⟨j, hj, rfl⟩ | hq
  · rcases slot_cases w with ⟨i, hi, rfl⟩ | hw
    · by_cases h0 : z < 0
      · refine ⟨-1, ?_, ?_⟩
        · unfold fX7_ways
          rw [bd_eq (isSlot_in j hj), brF (by decide), bd_eq (isSlot_in i hi), brF (by decide), brT h0]
        · unfold fX8_ways
          rw [bd_eq (isSlot8_in j hj), brF (by decide), bd_eq (isSlot8_in i hi), brF (by decide), bd_eq (in8_no (Or.inl (by rw [k0]; exact wide_lt h0))), brT rfl]
          rfl
      · by_cases h80 : z ≤ 80
        · obtain ⟨v, hv, rfl⟩ := nI_of2 (x := z) (M := 80) (n := 80) (by decide) h0 h80
          refine ⟨nI (wy sl j i v), ?_, ?_⟩
          · unfold fX7_ways
            rw [bd_eq (isSlot_in j hj), brF (by decide), bd_eq (isSlot_in i hi), brF (by decide), brF h0, brT h80, cl4 hj, cl4 hi, g4 hj, g4 hi, waysOf7 h hj hi hv]
            rfl
          · unfold fX8_ways
            rw [bd_eq (isSlot8_in j hj), brF (by decide), bd_eq (isSlot8_in i hi), brF (by decide), bd_eq (in8_yes (by rw [k0]; exact wide_nlt h0) (by rw [k80]; exact wide_nlt (Int32.not_lt.mpr h80))), brF (by decide), waysOf8 h hj hi hv]
            rfl
        · refine ⟨-1, ?_, ?_⟩
          · unfold fX7_ways
            rw [bd_eq (isSlot_in j hj), brF (by decide), bd_eq (isSlot_in i hi), brF (by decide), brF h0, brF h80]
          · unfold fX8_ways
            rw [bd_eq (isSlot8_in j hj), brF (by decide), bd_eq (isSlot8_in i hi), brF (by decide), bd_eq (in8_no (Or.inr (by rw [k80]; exact wide_lt (Int32.not_le.mp h80)))), brT rfl]
            rfl
    · refine ⟨-1, ?_, ?_⟩
      · unfold fX7_ways
        rw [bd_eq (isSlot_in j hj), brF (by decide), bd_eq (isSlot_out hw), brT rfl]
      · unfold fX8_ways
        rw [bd_eq (isSlot8_in j hj), brF (by decide), bd_eq (isSlot8_out hw), brT rfl]
        rfl
  · refine ⟨-1, ?_, ?_⟩
    · unfold fX7_ways
      rw [bd_eq (isSlot_out hq), brT rfl]
    · unfold fX8_ways
      rw [bd_eq (isSlot8_out hq), brT rfl]
      rfl
/-- the sum of squares of ways, up to n -/
def en (sl : Nat → Int64) (k : Nat) : Nat → Nat
  | 0 => 0
  | n + 1 => en sl k n + wy sl k k n * wy sl k k n
theorem core_energy {sl : Nat → Int64} {nw : Nat → Int32} (h : RS sl nw) (q : Int32) : ∃ r, fX7_energy q sl = some r ∧ fX8_energy q nw = some r := by
  rcases slot_cases q with ⟨j, hj, rfl⟩ | hq
  · refine ⟨nI (en sl j 81), ?_, ?_⟩
    · unfold fX7_energy
      rw [bd_eq (isSlot_in j hj), brF (by decide)]
      refine run_all (step := sX7_energy_13 (nI j) sl) 81 (fun i => (nI (en sl j i), nI i)) (nI (en sl j 81)) ?_ ?_
      · intro i hi
        show bX7_energy_13 (nI j) sl (nI (en sl j i)) (nI i) = _
        unfold bX7_energy_13
        simp only [lt_]
        rw [brF (show ¬ (80 : Int32) < nI i from nI_nlt (a := 80) (by omega) (by omega)), cl4 hj, g4 hj, g4 hj, bd_eq (waysOf7 h hj hj (by omega)), pk_mul, nI_add, nI_1]
        rfl
      · show bX7_energy_13 (nI j) sl (nI (en sl j 81)) (nI 81) = _
        unfold bX7_energy_13
        rw [brT (by decide)]
    · unfold fX8_energy
      rw [bd_eq (isSlot8_in j hj), brF (by decide)]
      refine run_all (step := sX8_energy_13 (nI j) nw) 81 (fun i => (nI (en sl j i), nI i)) (nI (en sl j 81)) ?_ ?_
      · intro i hi
        show bX8_energy_13 (nI j) nw (nI (en sl j i)) (nI i) = _
        unfold bX8_energy_13
        simp only [lt_]
        rw [brF (show ¬ (80 : Int32) < nI i from nI_nlt (a := 80) (by omega) (by omega)), bd_eq (waysOf8 h hj hj (by omega)), pk_mul, nI_add, nI_1]
        rfl
      · show bX8_energy_13 (nI j) nw (nI (en sl j 81)) (nI 81) = _
        unfold bX8_energy_13
        rw [brT (by decide)]
  · refine ⟨-1, ?_, ?_⟩
    · unfold fX7_energy
      rw [bd_eq (isSlot_out hq), brT rfl]
    · unfold fX8_energy
      rw [bd_eq (isSlot8_out hq), brT rfl]
