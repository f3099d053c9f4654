theorem bi_lN {n i : Nat} (h : n < 2 ^ 64) : bi (lN n) i = n.testBit i := by
  unfold bi
  rw [wb_tb, BitVec.getLsbD_ofNat]
  by_cases hi : i < 64
  · rw [decide_eq_true hi, Bool.true_and]
  · rw [decide_eq_false hi, Bool.false_and]
    exact (Nat.testBit_lt_two_pow (Nat.lt_of_lt_of_le h (Nat.pow_le_pow_right (by omega) (by omega)))).symm
theorem bc_eq (x : Int64) : fJ13_bitCount_95d88 x = some (nI (fb_ct (bi x) 64)) := by
  obtain ⟨n, hn, rfl⟩ := wb_of x
  rw [bitCount_eq hn, pc_ct]
  congr 3
  funext i
  exact (bi_lN hn).symm
theorem ct41 {x : Int64} (h : ∀ v, 41 ≤ v → bi x v = false) : fb_ct (bi x) 64 = fb_ct (bi x) 41 := by
  rw [show (64 : Nat) = 41 + 23 from rfl, fb_ct_split]
  have e : fb_ct (fun k => bi x (41 + k)) 23 = 0 := fb_ct_zero.mpr (fun k _ => h _ (by omega))
  rw [e]; omega
/-- how many numbers slot k has -/
def cn (sl : Nat → Int64) (k : Nat) : Nat := fb_ct (bi (sl k)) 41
theorem cn_le (sl : Nat → Int64) (k : Nat) : cn sl k ≤ 41 := fb_ct_le _ _
theorem RS.bc {sl : Nat → Int64} {nw : Nat → Int32} (h : RS sl nw) {k : Nat} (hk : k < 4) : fJ13_bitCount_95d88 (sl k) = some (nI (cn sl k)) := by
  rw [bc_eq, ct41 (h k hk).2]; rfl
theorem manyOf_eq {sl : Nat → Int64} {nw : Nat → Int32} (h : RS sl nw) {k : Nat} (hk : k < 4) : fX8_manyOf (nI k) nw = some (nI (cn sl k)) := by
  unfold fX8_manyOf
  refine run_all (step := sX8_manyOf_4 (nI k) nw) 41 (fun i => (nI (fb_ct (bi (sl k)) i), nI i)) (nI (cn sl k)) ?_ ?_
  · intro i hi
    show bX8_manyOf_4 (nI k) nw (nI (fb_ct (bi (sl k)) i)) (nI i) = _
    unfold bX8_manyOf_4 bX8_manyOf_30 br gd lt_
    simp (disch := omega) only [lit, nI_add, pk_mul, nI_leI, nI_ltI, nI_clamp]
    rw [if_neg (by omega), if_pos (by omega), (h k hk).1 i hi, fb_ct_succ]
    by_cases hb : bi (sl k) i = true
    · rw [if_pos hb, if_neg (by decide), if_pos hb]
    · rw [if_neg hb, if_pos (by decide), if_neg hb]
  · show bX8_manyOf_4 (nI k) nw (nI (fb_ct (bi (sl k)) 41)) (nI 41) = _
    unfold bX8_manyOf_4 br
    rw [if_pos (by decide)]
    rfl
