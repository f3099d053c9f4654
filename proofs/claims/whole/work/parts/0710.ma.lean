/-! the mathematics: numbers, runs, slots -/
theorem run_cnt {L T : Type} (step : L → Option (L ⊕ T)) (N : Nat) (st : Nat → L) (t : T) (hs : ∀ i, i < N → step (st i) = some (.inl (st (i + 1)))) (he : step (st N) = some (.inr t)) : ∀ k i, i + k = N → run step (st i) = some t := by
  intro k
  induction k with
  | zero => intro i h; rw [show i = N by omega]; exact run_inr he
  | succ k ih => intro i h; rw [run_inl (hs i (by omega))]; exact ih (i + 1) (by omega)
theorem run_all {L T : Type} {step : L → Option (L ⊕ T)} (N : Nat) (st : Nat → L) (t : T) (hs : ∀ i, i < N → step (st i) = some (.inl (st (i + 1)))) (he : step (st N) = some (.inr t)) : run step (st 0) = some t := run_cnt step N st t hs he N 0 (by omega)
/-- a run with an invariant instead of a row of states -/
theorem run_inv {L T : Type} {step : L → Option (L ⊕ T)} (N : Nat) (I : Nat → L → Prop) (P : T → Prop) (hs : ∀ i q, i < N → I i q → (∃ q2, step q = some (.inl q2) ∧ I (i + 1) q2) ∨ (∃ t, step q = some (.inr t) ∧ P t)) (he : ∀ q, I N q → ∃ t, step q = some (.inr t) ∧ P t) : ∀ k i q, i + k = N → I i q → ∃ t, run step q = some t ∧ P t := by
  intro k
  induction k with
  | zero =>
    intro i q h hI
    rw [show i = N by omega] at hI
    obtain ⟨t, h1, h2⟩ := he q hI
    exact ⟨t, run_inr h1, h2⟩
  | succ k ih =>
    intro i q h hI
    rcases hs i q (by omega) hI with ⟨q2, h1, h2⟩ | ⟨t, h1, h2⟩
    · rw [run_inl h1]; exact ih (i + 1) q2 (by omega) h2
    · exact ⟨t, run_inr h1, h2⟩
theorem lit (n : Nat) : (OfNat.ofNat n : Int32) = nI n := fa_lit n
theorem slot_cases (k : Int32) : (∃ j, j < 4 ∧ k = nI j) ∨ (k < 0 ∨ nI 4 ≤ k) := by
  rcases pk_ix k (n := 4) (by omega) with h | h | h
  · exact Or.inr (Or.inl h)
  · exact Or.inr (Or.inr h)
  · exact Or.inl h
theorem num_cases (k : Int32) : (∃ j, j < 41 ∧ k = nI j) ∨ (k < 0 ∨ nI 41 ≤ k) := by
  rcases pk_ix k (n := 41) (by omega) with h | h | h
  · exact Or.inr (Or.inl h)
  · exact Or.inr (Or.inr h)
  · exact Or.inl h
theorem isSlot_in : ∀ j, j < 4 → fX7_isSlot (nI j) = some 1 := by decide +kernel
theorem isSlot_out {k : Int32} (h : k < 0 ∨ nI 4 ≤ k) : fX7_isSlot k = some 0 := by
  have e : bX7_isSlot_13 = some 0 := by decide +kernel
  unfold fX7_isSlot br
  rw [e]
  by_cases h0 : k < 0
  · rw [if_pos h0]
  · rw [if_neg h0, if_pos (show (4 : Int32) ≤ k from h.resolve_left h0)]
theorem isNum_in : ∀ j, j < 41 → fX7_isNumber (nI j) = some 1 := by decide +kernel
theorem isNum_out {k : Int32} (h : k < 0 ∨ nI 41 ≤ k) : fX7_isNumber k = some 0 := by
  have e : bX7_isNumber_14 = some 0 := by decide +kernel
  unfold fX7_isNumber br
  rw [e]
  by_cases h0 : k < 0
  · rw [if_pos h0]
  · rw [if_neg h0, if_pos]
    have h1 := h.resolve_left h0
    rw [Int32.le_iff_toInt_le] at h1
    rw [Int32.lt_iff_toInt_lt]
    have e1 : (nI 41).toInt = 41 := by decide
    have e2 : (40 : Int32).toInt = 40 := by decide
    omega
theorem cmp_lt (x y : Int64) : lg_cmp x y < 0 ↔ x < y := by
  unfold lg_cmp
  by_cases h1 : x > y
  · rw [if_pos h1]
    constructor
    · intro h; exact absurd h (by decide)
    · intro h; rw [Int64.lt_iff_toInt_lt] at h; have h1 := Int64.lt_iff_toInt_lt.mp h1; omega
  · rw [if_neg h1]
    by_cases h2 : x = y
    · rw [if_pos h2, h2]
      constructor
      · intro h; exact absurd h (by decide)
      · intro h; rw [Int64.lt_iff_toInt_lt] at h; omega
    · rw [if_neg h2]
      constructor
      · intro _
        rw [Int64.lt_iff_toInt_lt]
        have h1 : ¬ y.toInt < x.toInt := fun z => h1 (Int64.lt_iff_toInt_lt.mpr z)
        have h2 : ¬ x.toInt = y.toInt := fun z => h2 (Int64.toInt_inj.mp z)
        omega
      · intro _; decide
theorem cmp_gt (x y : Int64) : 0 < lg_cmp x y ↔ y < x := by
  unfold lg_cmp
  by_cases h1 : x > y
  · rw [if_pos h1]
    constructor
    · intro _; exact h1
    · intro _; decide
  · rw [if_neg h1]
    by_cases h2 : x = y
    · rw [if_pos h2]
      constructor
      · intro h; exact absurd h (by decide)
      · intro h; exact absurd h h1
    · rw [if_neg h2]
      constructor
      · intro h; exact absurd h (by decide)
      · intro h; exact absurd h h1
theorem cmp_eq (x y : Int64) : lg_cmp x y = 0 ↔ x = y := by
  unfold lg_cmp
  by_cases h1 : x > y
  · rw [if_pos h1]
    constructor
    · intro h; exact absurd h (by decide)
    · intro h; have h1 := Int64.lt_iff_toInt_lt.mp h1; rw [h] at h1; omega
  · rw [if_neg h1]
    by_cases h2 : x = y
    · rw [if_pos h2]; exact ⟨fun _ => h2, fun _ => rfl⟩
    · rw [if_neg h2]
      constructor
      · intro h; exact absurd h (by decide)
      · intro h; exact absurd h h2
theorem in8_yes {x a b : Int64} (h1 : ¬ x < a) (h2 : ¬ b < x) : fX8_in x a b = some 1 := by
  unfold fX8_in br gd
  rw [if_neg (fun h => h1 ((cmp_lt _ _).mp h)), if_neg (fun h => h2 ((cmp_gt _ _).mp h)), if_pos (by decide)]
theorem in8_no {x a b : Int64} (h : x < a ∨ b < x) : fX8_in x a b = some 0 := by
  have e : bX8_in_17 = some 0 := by decide +kernel
  unfold fX8_in br
  rw [e]
  by_cases h1 : x < a
  · rw [if_pos ((cmp_lt _ _).mpr h1)]
  · rw [if_neg (fun h => h1 ((cmp_lt _ _).mp h)), if_pos ((cmp_gt _ _).mpr (h.resolve_left h1))]
theorem isSlot8_in : ∀ j, j < 4 → fX8_isSlot (nI j) = some 1 := by decide +kernel
theorem isSlot8_out {k : Int32} (h : k < 0 ∨ nI 4 ≤ k) : fX8_isSlot k = some 0 := by
  unfold fX8_isSlot
  rw [in8_no (x := k.toInt64) (a := 0) (b := 3), bd_eq rfl, gd_eq (Or.inl rfl)]
  rcases h with h | h
  · left
    rw [show (0 : Int64) = (0 : Int32).toInt64 from by decide]
    exact (fa_wide_lt _ _).mpr h
  · right
    rw [show (3 : Int64) = (3 : Int32).toInt64 from by decide]
    refine (fa_wide_lt _ _).mpr ?_
    rw [Int32.le_iff_toInt_le] at h
    rw [Int32.lt_iff_toInt_lt]
    have e1 : (nI 4).toInt = 4 := by decide
    have e2 : (3 : Int32).toInt = 3 := by decide
    omega
/-- bit v of a long -/
def bi (x : Int64) (v : Nat) : Bool := x.toBitVec.getLsbD v
theorem bi_shr : ∀ v, v < 64 → ((nI v).toInt64.toUInt64 &&& Int64.toUInt64 63).toNat = v := by decide +kernel
theorem has_in {x : Int64} {v : Nat} (h : v < 41) : fX7_has x (nI v) = some (if bi x v then 1 else 0) := by
  have e : bX7_has_21 = some 0 := by decide +kernel
  unfold fX7_has
  rw [bd_eq (isNum_in v h), e]
  unfold br gd
  rw [if_neg (by decide)]
  have hb := ts_bit (w := x) (s := (nI v).toInt64.toUInt64 &&& Int64.toUInt64 63) (j := v) (by omega) (bi_shr v (by omega))
  by_cases hz : bi x v = true
  · rw [if_neg, if_pos (by decide), if_pos hz]
    intro h2
    rw [cmp_eq, hb] at h2
    unfold bi at hz
    rw [h2] at hz
    cases hz
  · rw [if_pos, if_neg hz]
    rw [cmp_eq, hb]
    unfold bi at hz
    simpa using hz
theorem has_out {x : Int64} {k : Int32} (h : k < 0 ∨ nI 41 ≤ k) : fX7_has x k = some 0 := by
  have e : bX7_has_21 = some 0 := by decide +kernel
  unfold fX7_has
  rw [bd_eq (isNum_out h), e]
  unfold br
  rw [if_pos rfl]
/-- what class and reference hold of the slots -/
def RS (sl : Nat → Int64) (nw : Nat → Int32) : Prop := ∀ k, k < 4 → (∀ v, v < 41 → nw (41 * k + v) = if bi (sl k) v then 1 else 0) ∧ ∀ v, 41 ≤ v → bi (sl k) v = false
