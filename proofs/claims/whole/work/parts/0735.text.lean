/-- the text: T i is the letter at i, 0 behind its end -/
def TX (le mt : Nat → Int32) (n : Nat) (T : Nat → Nat) : Prop := n ≤ 200 ∧ (∀ i, n ≤ i → T i = 0) ∧ ∀ i, i < n → 32 ≤ T i ∧ T i ≤ 126 ∧ le i = nI (T i) ∧ mt i = nI (T i)
theorem RT.tx {le mt : Nat → Int32} {ln ml_ : Int32} (h : RT le ln ml_ mt) : ∃ n T, ln = nI n ∧ ml_ = nI n ∧ TX le mt n T := by
  obtain ⟨n, h1, h2, h3, h4⟩ := h
  refine ⟨n, fun i => if h : i < n then (h4 i h).choose else 0, h2, h3, h1, fun i hi => ?_, fun i hi => ?_⟩
  · show (if h : i < n then (h4 i h).choose else 0) = 0
    rw [dif_neg (by omega)]
  · show 32 ≤ (if h : i < n then (h4 i h).choose else 0) ∧ (if h : i < n then (h4 i h).choose else 0) ≤ 126 ∧ le i = nI (if h : i < n then (h4 i h).choose else 0) ∧ mt i = nI (if h : i < n then (h4 i h).choose else 0)
    rw [dif_pos hi]
    exact (h4 i hi).choose_spec
theorem TX.le {le mt : Nat → Int32} {n : Nat} {T : Nat → Nat} (h : TX le mt n T) (i : Nat) : T i ≤ 126 := by
  by_cases e : i < n
  · exact (h.2.2 i e).2.1
  · rw [h.2.1 i (by omega)]; omega
theorem TX.lt {le mt : Nat → Int32} {n : Nat} {T : Nat → Nat} (h : TX le mt n T) {i : Nat} (hi : T i ≠ 0) : i < n := by
  rcases Nat.lt_or_ge i n with e | e
  · exact e
  · exact absurd (h.2.1 i e) hi
theorem letter7 {le mt : Nat → Int32} {n : Nat} {T : Nat → Nat} (h : TX le mt n T) {i : Nat} (hi : i < 2 ^ 31) : fX3_letterAt (nI i) (nI n) le = some (nI (T i)) := by
  have hn := h.1
  unfold fX3_letterAt bX3_letterAt_28
  rw [brF (nI_pos hi)]
  by_cases e : n ≤ i
  · rw [brT (nI_le e hi), h.2.1 i e]; rfl
  · rw [brF (nI_ge (by omega) (by omega)), brF (show ¬ (200 : Int32) ≤ nI i from nI_ge (b := 200) (by omega) (by omega)), nI_clamp hi, gd_eq ⟨nI_pos hi, by omega⟩, (h.2.2 i (by omega)).2.2.1]
theorem letter8 {le mt : Nat → Int32} {n : Nat} {T : Nat → Nat} (h : TX le mt n T) {i : Nat} (hi : i < 2 ^ 31) : fX8_byteAt (nI i) (nI n) mt = some (nI (T i)) := by
  have hn := h.1
  unfold fX8_byteAt
  by_cases e : n ≤ i
  · rw [brT (nI_le e hi), h.2.1 i e]; rfl
  · rw [brF (nI_ge (by omega) (by omega)), nI_clamp hi, gd_eq ⟨nI_pos hi, by omega⟩, (h.2.2 i (by omega)).2.2.2]
def isF (T : Nat → Nat) (i : Nat) : Bool := decide (48 ≤ T i) && decide (T i ≤ 57)
theorem isF_iff {T : Nat → Nat} {i : Nat} : isF T i = true ↔ 48 ≤ T i ∧ T i ≤ 57 := by unfold isF; simp
def figs (T : Nat → Nat) (i : Nat) : Nat := if isF T i then (if isF T (i + 1) then 2 else 1) else 0
def valu (T : Nat → Nat) (i : Nat) : Nat := if isF T i then (if isF T (i + 1) then 10 * (T i - 48) + (T (i + 1) - 48) else T i - 48) else 0
theorem isFigure7 {le mt : Nat → Int32} {n : Nat} {T : Nat → Nat} (h : TX le mt n T) {i : Nat} (hi : i < 2 ^ 31) : fX3_isFigure (nI i) (nI n) le = some (if isF T i then 1 else 0) := by
  have ht := h.le i
  unfold fX3_isFigure bX3_isFigure_22
  rw [bd_eq (letter7 h hi)]
  by_cases e1 : T i < 48
  · rw [brT (show nI (T i) < (48 : Int32) from nI_lt (b := 48) e1 (by omega)), gd_eq (Or.inl rfl), if_neg (by rw [isF_iff]; omega)]
  · rw [brF (show ¬ nI (T i) < (48 : Int32) from nI_nlt (b := 48) (by omega) (by omega))]
    by_cases e2 : 57 < T i
    · rw [brT (show (57 : Int32) < nI (T i) from nI_lt (a := 57) e2 (by omega)), gd_eq (Or.inl rfl), if_neg (by rw [isF_iff]; omega)]
    · rw [brF (show ¬ (57 : Int32) < nI (T i) from nI_nlt (a := 57) (by omega) (by omega)), gd_eq (Or.inr rfl), if_pos (by rw [isF_iff]; omega)]
theorem figures7 {le mt : Nat → Int32} {n : Nat} {T : Nat → Nat} (h : TX le mt n T) {i : Nat} (hi : i < 2 ^ 30) : fX3_figuresAt (nI i) (nI n) le = some (nI (figs T i)) := by
  unfold fX3_figuresAt figs
  rw [bd_eq (isFigure7 h (by omega)), nI_1, bd_eq (isFigure7 h (by omega))]
  by_cases e1 : isF T i = true
  · rw [if_pos e1, if_pos e1, brF (by decide)]
    by_cases e2 : isF T (i + 1) = true
    · rw [if_pos e2, if_pos e2, brF (by decide)]; rfl
    · rw [if_neg e2, if_neg e2, brT rfl]; rfl
  · rw [if_neg e1, if_neg e1, brT rfl]; rfl
theorem fig_val {T : Nat → Nat} {i v : Nat} (h : isF T i = true) : ((10 : Int32) * nI v + nI (T i)) - (48 : Int32) = nI (10 * v + (T i - 48)) := by
  have := isF_iff.mp h
  rw [show (10 : Int32) = nI 10 from rfl, show (48 : Int32) = nI 48 from rfl, pk_mul, nI_add, pk_sub (by omega)]
  congr 1
  omega
theorem value7 {le mt : Nat → Int32} {n : Nat} {T : Nat → Nat} (h : TX le mt n T) {i : Nat} (hi : i < 2 ^ 30) : fX3_valueAt (nI i) (nI (figs T i)) (nI n) le = some (nI (valu T i)) := by
  unfold fX3_valueAt figs valu
  have st : ∀ f j v, j < f → f ≤ 2 → isF T (i + j) = true → sX3_valueAt_5 (nI i) (nI f) (nI n) le (nI v, nI j) = some (.inl (nI (10 * v + (T (i + j) - 48)), nI (j + 1))) := by
    intro f j v hj hf hF
    show bX3_valueAt_5 (nI i) (nI f) (nI n) le (nI v) (nI j) = _
    unfold bX3_valueAt_5
    rw [brF (nI_ge hj (by omega)), nI_add, bd_eq (letter7 h (by omega))]
    simp only [lt_]
    rw [fig_val hF, nI_1]
  have en : ∀ f v, sX3_valueAt_5 (nI i) (nI f) (nI n) le (nI v, nI f) = some (.inr (nI v)) := by
    intro f v
    show bX3_valueAt_5 (nI i) (nI f) (nI n) le (nI v) (nI f) = _
    unfold bX3_valueAt_5
    rw [brT (Int32.le_refl _)]
  show run _ (nI 0, nI 0) = _
  by_cases e1 : isF T i = true
  · rw [if_pos e1, if_pos e1]
    by_cases e2 : isF T (i + 1) = true
    · rw [if_pos e2, if_pos e2, run_inl (st 2 0 0 (by omega) (by omega) e1), run_inl (st 2 1 _ (by omega) (by omega) e2), run_inr (en 2 _)]
      congr 2
      rw [Nat.mul_zero, Nat.zero_add, Nat.add_zero]
    · rw [if_neg e2, if_neg e2, run_inl (st 1 0 0 (by omega) (by omega) e1), run_inr (en 1 _)]
      congr 2
      rw [Nat.mul_zero, Nat.zero_add, Nat.add_zero]
  · rw [if_neg e1, if_neg e1, run_inr (en 0 _)]
theorem p48 : (48 : Int64) = (48 : Int32).toInt64 := by decide
theorem p57 : (57 : Int64) = (57 : Int32).toInt64 := by decide
theorem inF {le mt : Nat → Int32} {n : Nat} {T : Nat → Nat} (h : TX le mt n T) (i : Nat) : fX8_in (nI (T i)).toInt64 48 57 = some (if isF T i then 1 else 0) := by
  have ht := h.le i
  rw [p48, p57, in8_dec]
  by_cases e : isF T i = true
  · have := isF_iff.mp e
    rw [if_pos e, if_neg]
    rintro (z | z)
    · exact nI_nlt (b := 48) (by omega) (by omega) z
    · exact nI_nlt (a := 57) (by omega) (by omega) z
  · rw [if_neg e, if_pos]
    rw [isF_iff] at e
    rcases Nat.lt_or_ge (T i) 48 with l | l
    · exact Or.inl (nI_lt (b := 48) l (by omega))
    · exact Or.inr (nI_lt (a := 57) (by omega) (by omega))
theorem number8 {le mt : Nat → Int32} {n : Nat} {T : Nat → Nat} (h : TX le mt n T) {i lo hi_ : Nat} (hi : i < 2 ^ 30) (h1 : lo < 2 ^ 31) (h2 : hi_ < 2 ^ 31) : fX8_number (nI lo) (nI hi_) (nI n) (nI i) mt = some (if 0 < figs T i ∧ lo ≤ valu T i ∧ valu T i ≤ hi_ then nI (valu T i) else -1, nI (i + figs T i)) := by
  unfold fX8_number
  have st : ∀ j v, j < 2 → isF T (i + j) = true → sX8_number_5 (nI lo) (nI hi_) (nI n) mt (nI v, nI j, nI (i + j)) = some (.inl (nI (10 * v + (T (i + j) - 48)), nI (j + 1), nI (i + (j + 1)))) := by
    intro j v hj hF
    show bX8_number_5 (nI lo) (nI hi_) (nI n) mt (nI v) (nI j) (nI (i + j)) = _
    unfold bX8_number_5
    rw [brF (show ¬ (2 : Int32) ≤ nI j from nI_ge (b := 2) hj (by omega)), bd_eq (letter8 h (by omega)), bd_eq (inF h _), if_pos hF, brF (by decide), bd_eq (letter8 h (by omega))]
    simp only [lt_]
    rw [fig_val hF, nI_1, nI_1]
    rfl
  have en : ∀ j v, j ≤ 2 → v < 2 ^ 31 → (j = 2 ∨ isF T (i + j) = false) → sX8_number_5 (nI lo) (nI hi_) (nI n) mt (nI v, nI j, nI (i + j)) = some (.inr (if 0 < j ∧ lo ≤ v ∧ v ≤ hi_ then nI v else -1, nI (i + j))) := by
    intro j v hj hv hF
    have e65 : bX8_number_65 (nI lo) (nI hi_) (nI v) (nI j) (nI n) (nI (i + j)) mt = some (if 0 < j ∧ lo ≤ v ∧ v ≤ hi_ then nI v else -1, nI (i + j)) := by
      unfold bX8_number_65 bX8_number_86
      by_cases j0 : j = 0
      · subst j0
        rw [brT (by decide), if_neg (by omega)]
      · rw [brF (nI_nle (by omega) (by omega)), in8_dec, bd_eq rfl]
        by_cases e : lo ≤ v ∧ v ≤ hi_
        · rw [if_neg, brF (by decide), if_pos (by omega)]
          rintro (z | z)
          · exact nI_nlt e.1 (by omega) z
          · exact nI_nlt e.2 (by omega) z
        · rw [if_pos, brT rfl, if_neg (by omega)]
          rcases Nat.lt_or_ge v lo with l | l
          · exact Or.inl (nI_lt l (by omega))
          · exact Or.inr (nI_lt (by omega) (by omega))
    show bX8_number_5 (nI lo) (nI hi_) (nI n) mt (nI v) (nI j) (nI (i + j)) = _
    unfold bX8_number_5
    rw [e65]
    by_cases j2 : j = 2
    · subst j2
      rw [brT (by decide)]; rfl
    · rw [brF (show ¬ (2 : Int32) ≤ nI j from nI_ge (b := 2) (by omega) (by omega)), bd_eq (letter8 h (by omega)), bd_eq (inF h _), if_neg (by rw [hF.resolve_left j2]; decide), brT rfl]
      rfl
  show run _ (nI 0, nI 0, nI (i + 0)) = _
  have t0 := h.le i
  have t1 := h.le (i + 1)
  unfold figs valu
  by_cases e1 : isF T i = true
  · rw [if_pos e1, if_pos e1, run_inl (st 0 0 (by omega) e1)]
    by_cases e2 : isF T (i + 1) = true
    · rw [if_pos e2, if_pos e2, run_inl (st 1 _ (by omega) e2), run_inr (en 2 _ (by omega) (by simp only [Nat.add_zero]; omega) (Or.inl rfl))]
      simp only [Nat.mul_zero, Nat.zero_add, Nat.add_zero]
    · rw [if_neg e2, if_neg e2, run_inr (en 1 _ (by omega) (by simp only [Nat.add_zero]; omega) (Or.inr (by simpa using e2)))]
      simp only [Nat.mul_zero, Nat.zero_add, Nat.add_zero]
  · rw [if_neg e1, if_neg e1, run_inr (en 0 _ (by omega) (by omega) (Or.inr (by simpa using e1)))]
