/-- k is the highest bit of x -/
def top (x : Int64) (k : Nat) : Prop := k < 64 ∧ bi x k = true ∧ ∀ i, k < i → bi x i = false
theorem top_hib {n k : Nat} (hn : n < 2 ^ 64) (h : top (lN n) k) : hib n k := by
  refine ⟨Nat.ge_two_pow_of_testBit (by rw [← bi_lN hn]; exact h.2.1), Nat.lt_pow_two_of_testBit n (fun i hi => ?_)⟩
  rw [← bi_lN hn]
  exact h.2.2 i (by omega)
theorem greatestOf_eq {x : Int64} {k : Nat} (h : top x k) : fX7_greatestOf x = some (nI k) := by
  obtain ⟨n, hn, rfl⟩ := wb_of x
  have hh := top_hib hn h
  have hk := h.1
  have e : fJ13_numberOfLeadingZeros_95d88 (lN n) = some (nI (63 - k)) := by
    unfold fJ13_numberOfLeadingZeros_95d88
    simp only [lt_]
    rw [show (32 : Int32) = nI 32 from rfl, wb_shr hn (by omega), lN_i, lN_i]
    by_cases h32 : k < 32
    · have hlt := (hib_lt (k := 32) hh).mpr h32
      rw [brT (by rw [Nat.div_eq_of_lt hlt]; rfl), bd_eq (nlz32 hh h32), nI_add, show 32 + (31 - k) = 63 - k by omega]
    · have hd := hib_div (k := 32) hh (by omega)
      have hd2 := (hib_lt (k := 32) hd).mpr (by omega)
      have hp : 0 < n / 2 ^ 32 := Nat.lt_of_lt_of_le (Nat.two_pow_pos _) hd.1
      rw [brF, bd_eq (nlz32 hd (by omega)), show 31 - (k - 32) = 63 - k by omega]
      intro z
      have e2 : (nI (n / 2 ^ 32)).toBitVec.toNat = n / 2 ^ 32 := pk_tn hd2
      rw [z] at e2
      have e3 : (0 : Int32).toBitVec.toNat = 0 := by decide
      omega
  unfold fX7_greatestOf
  rw [bd_eq e, show (63 : Int32) = nI 63 from rfl, pk_sub (by omega), show 63 - (63 - k) = k by omega]
/-- the least and the greatest number of a set that has one -/
theorem ends_of {P : Nat → Bool} {N : Nat} (h : fb_ct P N ≠ 0) : (∃ a, a < N ∧ P a = true ∧ ∀ i, i < a → P i = false) ∧ ∃ b, b < N ∧ P b = true ∧ ∀ i, b < i → i < N → P i = false := by
  obtain ⟨k, hk, hP⟩ := fb_ct_pos.mp (Nat.pos_of_ne_zero h)
  refine ⟨?_, ?_⟩
  · obtain ⟨a, a1, a2, a3⟩ := fb_first (p := fun i => P i = true) (n := N) ⟨k, hk, hP⟩
    exact ⟨a, a1, a2, fun i hi => by simpa using a3 i hi⟩
  · obtain ⟨b, b1, b2, b3⟩ := fb_last (p := fun i => P i = true) (n := N) ⟨k, hk, hP⟩
    exact ⟨b, b1, b2, fun i hi hN => by simpa using b3 i hi hN⟩
theorem RS.ends {sl : Nat → Int64} {nw : Nat → Int32} (h : RS sl nw) {k : Nat} (hk : k < 4) (hz : cn sl k ≠ 0) : ∃ a b, a < 41 ∧ b < 41 ∧ low (sl k) a ∧ top (sl k) b := by
  obtain ⟨⟨a, a1, a2, a3⟩, b, b1, b2, b3⟩ := ends_of hz
  exact ⟨a, b, a1, b1, ⟨by omega, a2, a3⟩, by omega, b2, fun i hi => by
    by_cases h41 : i < 41
    · exact b3 i hi h41
    · exact (h k hk).2 i (by omega)⟩
/-- the step of the cover: of the differences of the numbers below n to the least one -/
def gS (P : Nat → Bool) (k0 : Nat) : Nat → Nat
  | 0 => 0
  | n + 1 => if P n then Nat.gcd (gS P k0 n) (n - k0) else gS P k0 n
theorem gS_const {P : Nat → Bool} {k0 i : Nat} : ∀ {k : Nat}, fb_ct P (i + k) = fb_ct P i → gS P k0 (i + k) = gS P k0 i := by
  intro k
  induction k with
  | zero => intro _; rfl
  | succ k ih =>
    intro h
    have h1 := fb_ct_step P i k
    rw [show i + (k + 1) = (i + k) + 1 by omega, fb_ct_succ] at h
    have hn : ¬ P (i + k) = true := by
      intro z
      rw [if_pos z] at h
      omega
    rw [if_neg hn] at h
    show (if P (i + k) then _ else gS P k0 (i + k)) = _
    rw [if_neg hn]
    exact ih h
theorem gS_same {P : Nat → Bool} {k0 i j : Nat} (h : fb_ct P i = fb_ct P j) : gS P k0 i = gS P k0 j := by
  rcases Nat.le_total i j with q | q
  · have := gS_const (P := P) (k0 := k0) (i := i) (k := j - i) (by rw [show i + (j - i) = j by omega]; exact h.symm)
    rw [show i + (j - i) = j by omega] at this
    exact this.symm
  · have := gS_const (P := P) (k0 := k0) (i := j) (k := i - j) (by rw [show j + (i - j) = i by omega]; exact h)
    rw [show j + (i - j) = i by omega] at this
    exact this
theorem gS_le {P : Nat → Bool} {k0 : Nat} : ∀ n, gS P k0 n ≤ n := by
  intro n
  induction n with
  | zero => exact Nat.le_refl 0
  | succ n ih =>
    show (if P n then Nat.gcd (gS P k0 n) (n - k0) else gS P k0 n) ≤ n + 1
    split
    · rcases Nat.eq_zero_or_pos (gS P k0 n) with z | z
      · rw [z, Nat.gcd_zero_left]; omega
      · have := Nat.gcd_le_left (n - k0) z
        omega
    · omega
theorem gS_zero {P : Nat → Bool} {k0 : Nat} : ∀ {n : Nat}, gS P k0 n = 0 → ∀ v, v < n → P v = true → v ≤ k0 := by
  intro n
  induction n with
  | zero => intro _ v hv; omega
  | succ n ih =>
    intro h v hv hP
    have h : (if P n then Nat.gcd (gS P k0 n) (n - k0) else gS P k0 n) = 0 := h
    by_cases hn : P n = true
    · rw [if_pos hn] at h
      have h1 := Nat.gcd_eq_zero_iff.mp h
      by_cases e : v = n
      · subst e; omega
      · exact ih h1.1 v (by omega) hP
    · rw [if_neg hn] at h
      by_cases e : v = n
      · subst e; exact absurd hP hn
      · exact ih h v (by omega) hP
theorem gS_first {P : Nat → Bool} {k0 : Nat} (h : ∀ i, i < k0 → P i = false) : gS P k0 (k0 + 1) = 0 := by
  have e : gS P k0 k0 = 0 := by
    have := gS_same (P := P) (k0 := k0) (i := k0) (j := 0) (fb_ct_zero.mpr h)
    exact this
  show (if P k0 then Nat.gcd (gS P k0 k0) (k0 - k0) else gS P k0 k0) = 0
  rw [e, Nat.sub_self]
  split <;> rfl
/-- the step as told: 1 for a single number -/
def cS (x : Int64) (k0 : Nat) : Nat := if gS (bi x) k0 41 = 0 then 1 else gS (bi x) k0 41
theorem coverStep_eq {x : Int64} {k0 : Nat} (h : low x k0) (h41 : k0 < 41) : fX7_coverStep x = some (nI (cS x k0)) := by
  unfold fX7_coverStep
  rw [bd_eq (leastOf_eq h)]
  simp only [lt_]
  rw [nI_1]
  have e0 : ((0 : Int32), nI (k0 + 1)) = (fun i => (nI (gS (bi x) k0 (k0 + 1 + i)), nI (k0 + 1 + i))) 0 := by
    show _ = (nI (gS (bi x) k0 (k0 + 1 + 0)), nI (k0 + 1 + 0))
    rw [Nat.add_zero, gS_first h.2.2]; rfl
  rw [e0]
  refine run_all (step := sX7_coverStep_12 x (nI k0)) (40 - k0) (fun i => (nI (gS (bi x) k0 (k0 + 1 + i)), nI (k0 + 1 + i))) _ ?_ ?_
  · intro i hi
    show bX7_coverStep_12 x (nI k0) (nI (gS (bi x) k0 (k0 + 1 + i))) (nI (k0 + 1 + i)) = _
    have hle := gS_le (P := bi x) (k0 := k0) (k0 + 1 + i)
    unfold bX7_coverStep_12 bX7_coverStep_37
    simp only [lt_]
    rw [brF (show ¬ (40 : Int32) < nI (k0 + 1 + i) from nI_nlt (a := 40) (by omega) (by omega)), bd_eq (has_in (show k0 + 1 + i < 41 by omega)), pk_sub (show k0 ≤ k0 + 1 + i by omega), bd_eq (gd7 (by omega) (by omega)), nI_1]
    show _ = some (Sum.inl (nI (if bi x (k0 + 1 + i) then Nat.gcd (gS (bi x) k0 (k0 + 1 + i)) (k0 + 1 + i - k0) else gS (bi x) k0 (k0 + 1 + i)), nI (k0 + 1 + (i + 1))))
    by_cases hb : bi x (k0 + 1 + i) = true
    · rw [if_pos hb, if_pos hb, brF (by decide), Nat.gcd_comm]; rfl
    · rw [if_neg hb, if_neg hb, brT rfl]; rfl
  · show bX7_coverStep_12 x (nI k0) (nI (gS (bi x) k0 (k0 + 1 + (40 - k0)))) (nI (k0 + 1 + (40 - k0))) = _
    rw [show k0 + 1 + (40 - k0) = 41 by omega]
    have hle := gS_le (P := bi x) (k0 := k0) 41
    unfold bX7_coverStep_12 cS
    rw [brT (by decide)]
    by_cases hz : gS (bi x) k0 41 = 0
    · rw [hz, brT (by decide), if_pos rfl]; rfl
    · rw [brF (nI_ne0 (by omega) (by omega)), if_neg hz]
theorem cS_pos (x : Int64) (k0 : Nat) : 0 < cS x k0 ∧ cS x k0 ≤ 41 := by
  have hle := gS_le (P := bi x) (k0 := k0) 41
  unfold cS
  split <;> omega
theorem coverLength_eq {x : Int64} {k0 k1 : Nat} (h : low x k0) (h41 : k0 < 41) (ht : top x k1) (h1 : k1 < 41) : fX7_coverLength x = some (nI ((k1 - k0) / cS x k0 + 1)) := by
  have hle : k0 ≤ k1 := by
    rcases Nat.lt_or_ge k1 k0 with z | z
    · have := ht.2.2 k0 z
      rw [h.2.1] at this; cases this
    · exact z
  obtain ⟨c1, c2⟩ := cS_pos x k0
  unfold fX7_coverLength
  rw [bd_eq (coverStep_eq h h41), brT (show (1 : Int32) ≤ nI (cS x k0) from nI_le (a := 1) c1 (by omega)), bd_eq (greatestOf_eq ht), bd_eq (leastOf_eq h), gd_eq (nI_ne0 c1 (by omega))]
  simp only [lt_]
  rw [pk_sub hle, pk_div (by omega) c1 (by omega), nI_1]
