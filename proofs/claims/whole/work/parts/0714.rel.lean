theorem brT {β : Type} {b : Prop} [Decidable b] {x y : Option β} (h : b) : br b x y = x := if_pos h
theorem brF {β : Type} {b : Prop} [Decidable b] {x y : Option β} (h : ¬ b) : br b x y = y := if_neg h
theorem g4 {β : Type} {j : Nat} (h : j < 4) {k : Option β} : gd (¬ nI j < 0 ∧ j < 4) k = k := gd_eq ⟨nI_pos (by omega), h⟩
theorem cl4 {j : Nat} (h : j < 4) : (nI j).toNatClampNeg = j := nI_clamp (by omega)
/-! the relation between class and reference, but for the caches of searches -/
def RT (le : Nat → Int32) (ln : Int32) (ml_ : Int32) (mt : Nat → Int32) : Prop := ∃ n, n ≤ 200 ∧ ln = nI n ∧ ml_ = nI n ∧ ∀ i, i < n → ∃ c, 32 ≤ c ∧ c ≤ 126 ∧ le i = nI c ∧ mt i = nI c
def RH (sl : Nat → Int64) (ch : Nat → Int32) (bf : Nat → Int64) (sz : Int32) (mb : Nat → Int32) (um : Int32) : Prop := ∃ n, n ≤ 6 ∧ sz = nI n ∧ um = nI n ∧ ∃ st : Nat → Nat → Int64, (∀ k, k < 4 → st n k = sl k) ∧ ∀ j, j < n → RS (st j) (fun i => mb (164 * j + i)) ∧ ∃ c, c < 4 ∧ ch j = nI c ∧ bf j = st j c ∧ ∀ k, k < 4 → k ≠ c → st j k = st (j + 1) k
theorem zero_iff {sl : Nat → Int64} {nw : Nat → Int32} (h : RS sl nw) {k : Nat} (hk : k < 4) : sl k = 0 ↔ cn sl k = 0 := by
  constructor
  · intro e
    unfold cn
    rw [e]
    exact fb_ct_zero.mpr (fun v _ => by unfold bi; simp)
  · intro e
    have hz := fb_ct_zero.mp e
    refine Int64.toBitVec_inj.mp (BitVec.eq_of_getLsbD_eq (fun i hi => ?_))
    have e2 : bi (sl k) i = false := by
      by_cases h41 : i < 41
      · exact hz i h41
      · exact (h k hk).2 i (by omega)
    unfold bi at e2
    rw [e2]
    simp
theorem cz_iff {sl : Nat → Int64} {nw : Nat → Int32} (h : RS sl nw) {k : Nat} (hk : k < 4) : lg_cmp (sl k) 0 = 0 ↔ cn sl k = 0 := (cmp_eq _ _).trans (zero_iff h hk)
/-- how many slots are in use -/
def us (sl : Nat → Int64) : Nat := fb_ct (fun k => decide (cn sl k ≠ 0)) 4
theorem slots7_eq {sl : Nat → Int64} {nw : Nat → Int32} (h : RS sl nw) : fX7_slotsInUse sl = some (nI (us sl)) := by
  unfold fX7_slotsInUse
  refine run_all (step := sX7_slotsInUse_4 sl) 4 (fun i => (nI (fb_ct (fun k => decide (cn sl k ≠ 0)) i), nI i)) (nI (us sl)) ?_ ?_
  · intro i hi
    show bX7_slotsInUse_4 sl (nI (fb_ct (fun k => decide (cn sl k ≠ 0)) i)) (nI i) = _
    unfold bX7_slotsInUse_4 bX7_slotsInUse_23 lt_
    simp (disch := omega) only [lit, nI_add, nI_leI, nI_ltI, nI_clamp]
    rw [brF (by omega), gd_eq (by omega), fb_ct_succ]
    by_cases hb : cn sl i = 0
    · rw [brT (show lg_cmp (sl i) 0 = nI 0 from (cz_iff h hi).mpr hb), if_neg (by simp [hb])]; rfl
    · rw [brF (show ¬ lg_cmp (sl i) 0 = nI 0 from fun z => hb ((cz_iff h hi).mp z)), if_pos (by simp [hb])]
  · show bX7_slotsInUse_4 sl (nI (us sl)) (nI 4) = _
    unfold bX7_slotsInUse_4 br
    rw [if_pos (by decide)]
theorem slots8_eq {sl : Nat → Int64} {nw : Nat → Int32} (h : RS sl nw) : fX8_slots nw = some (nI (us sl)) := by
  unfold fX8_slots
  refine run_all (step := sX8_slots_4 nw) 4 (fun i => (nI (fb_ct (fun k => decide (cn sl k ≠ 0)) i), nI i)) (nI (us sl)) ?_ ?_
  · intro i hi
    show bX8_slots_4 nw (nI (fb_ct (fun k => decide (cn sl k ≠ 0)) i)) (nI i) = _
    have hc := cn_le sl i
    unfold bX8_slots_4 bX8_slots_23
    rw [bd_eq (manyOf_eq h hi)]
    unfold br lt_
    simp (disch := omega) only [lit, nI_add, nI_leI, nI_ltI, nI_clamp]
    rw [if_neg (by omega), fb_ct_succ]
    by_cases hb : cn sl i = 0
    · rw [if_pos (by omega), if_neg (by simp [hb])]
    · rw [if_neg (by omega), if_pos (by simp [hb])]
  · show bX8_slots_4 nw (nI (us sl)) (nI 4) = _
    unfold bX8_slots_4 br
    rw [if_pos (by decide)]
theorem core_count {sl : Nat → Int64} {nw : Nat → Int32} {ln um : Int32} (h : RS sl nw) (q : Int32) : ∃ r, fX7_count q sl ln um = some r ∧ fX8_count q ln um nw = some r := by
  rcases slot_cases q with ⟨j, hj, rfl⟩ | hq
  · refine ⟨nI (cn sl j), ?_, ?_⟩
    · unfold fX7_count
      rw [bd_eq (isSlot_in j hj)]
      unfold br gd
      rw [if_neg (by decide), nI_clamp (by omega), if_pos ⟨nI_pos (by omega), hj⟩, bd_eq (h.bc hj)]
    · unfold fX8_count
      rw [bd_eq (manyOf_eq h hj)]
      unfold br
      rcases (show j = 0 ∨ j = 1 ∨ j = 2 ∨ j = 3 by omega) with rfl | rfl | rfl | rfl
      · rw [if_pos (by decide)]
      · rw [if_neg (by decide), if_pos (by decide)]
      · rw [if_neg (by decide), if_neg (by decide), if_pos (by decide)]
      · rw [if_neg (by decide), if_neg (by decide), if_neg (by decide), if_pos (by decide)]
  · have hn : ∀ j, j < 4 → ¬ q = nI j := by
      intro j hj e
      rw [e] at hq
      rcases hq with hq | hq
      · exact nI_pos (by omega) hq
      · exact nI_ge hj (by omega) hq
    have e7 : fX7_count q sl ln um = br (q = (4 : Int32)) (bd (fX1_size um) (fun u6 => some (u6))) (br (q = (5 : Int32)) (bd (fX3_length ln) (fun u7 => some (u7))) (br (q = (6 : Int32)) (bd (fX7_slotsInUse sl) (fun u8 => some (u8))) (some ((-1 : Int32))))) := by
      unfold fX7_count
      rw [bd_eq (isSlot_out hq)]
      exact if_pos rfl
    have e8 : fX8_count q ln um nw = br (q = (4 : Int32)) (some um) (br (q = (5 : Int32)) (some ln) (br (q = (6 : Int32)) (bd (fX8_slots nw) (fun u12 => some (u12))) (some ((-1 : Int32))))) := by
      unfold fX8_count
      rw [brF (show ¬ q = (0 : Int32) from hn 0 (by omega)), brF (show ¬ q = (1 : Int32) from hn 1 (by omega)), brF (show ¬ q = (2 : Int32) from hn 2 (by omega)), brF (show ¬ q = (3 : Int32) from hn 3 (by omega))]
    rw [e7, e8, bd_eq (slots7_eq h), bd_eq (slots8_eq h)]
    by_cases h4 : q = 4
    · rw [brT h4, brT h4]; exact ⟨_, rfl, rfl⟩
    · rw [brF h4, brF h4]
      by_cases h5 : q = 5
      · rw [brT h5, brT h5]; exact ⟨_, rfl, rfl⟩
      · rw [brF h5, brF h5]
        exact ⟨br (q = 6) (some (nI (us sl))) (some (-1)) |>.getD 0, by by_cases h6 : q = 6 <;> simp [br, h6], by by_cases h6 : q = 6 <;> simp [br, h6]⟩
theorem core_floor {sl : Nat → Int64} {nw : Nat → Int32} (h : RS sl nw) (q w : Int32) : ∃ r, fX7_floor q w sl = some r ∧ fX8_floor q w nw = some r := by
  rcases slot_cases q with ⟨j, hj, rfl⟩ | hq
  · rcases slot_cases w with ⟨i, hi, rfl⟩ | hw
    · refine ⟨if cn sl j = 0 ∨ cn sl i = 0 then -2 else nI (cn sl j + cn sl i) - 1, ?_, ?_⟩
      · unfold fX7_floor fX7_fewestSums bX7_floor_38
        rw [bd_eq (isSlot_in j hj), brF (by decide), bd_eq (isSlot_in i hi), brF (by decide)]
        simp only [g4 hj, g4 hi, cl4 hj, cl4 hi]
        by_cases h1 : cn sl j = 0
        · rw [brT ((cz_iff h hj).mpr h1), if_pos (Or.inl h1)]
        · rw [brF (fun z => h1 ((cz_iff h hj).mp z))]
          by_cases h2 : cn sl i = 0
          · rw [brT ((cz_iff h hi).mpr h2), if_pos (Or.inr h2)]
          · rw [brF (fun z => h2 ((cz_iff h hi).mp z)), if_neg (by omega), h.bc hj, h.bc hi]
            show some (nI (cn sl j) + nI (cn sl i) - 1) = _
            rw [nI_add]
      · unfold fX8_floor bX8_floor_38
        rw [bd_eq (isSlot8_in j hj), bd_eq (isSlot8_in i hi), bd_eq (manyOf_eq h hj), bd_eq (manyOf_eq h hi)]
        have c1 := cn_le sl j
        have c2 := cn_le sl i
        unfold br
        rw [if_neg (by decide), if_neg (by decide)]
        by_cases h1 : cn sl j = 0
        · rw [if_pos (by rw [h1]; rfl), if_pos (Or.inl h1)]
        · rw [if_neg (nI_ne0 (by omega) (by omega))]
          by_cases h2 : cn sl i = 0
          · rw [if_pos (by rw [h2]; rfl), if_pos (Or.inr h2)]
          · rw [if_neg (nI_ne0 (by omega) (by omega)), if_neg (by omega), nI_add]
    · refine ⟨-1, ?_, ?_⟩
      · unfold fX7_floor
        rw [bd_eq (isSlot_in j hj), bd_eq (isSlot_out hw)]
        unfold br
        rw [if_neg (by decide), if_pos rfl]
      · unfold fX8_floor
        rw [bd_eq (isSlot8_in j hj), bd_eq (isSlot8_out hw)]
        unfold br
        rw [if_neg (by decide), if_pos rfl]
  · refine ⟨-1, ?_, ?_⟩
    · unfold fX7_floor
      rw [bd_eq (isSlot_out hq)]
      exact if_pos rfl
    · unfold fX8_floor
      rw [bd_eq (isSlot8_out hq)]
      exact if_pos rfl
