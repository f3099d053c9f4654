/-! the wide sets of the class -/
theorem bi_lN2 (n i : Nat) : bi (lN n) i = (decide (i < 64) && n.testBit i) := by
  unfold bi
  rw [wb_tb, BitVec.getLsbD_ofNat]
theorem bi_shl (x : Int64) {k r : Nat} (hk : k < 64) (hr : r < 64) : bi (x <<< ((nI k).toInt64 &&& 63)) r = (decide (k ≤ r) && bi x (r - k)) := by
  obtain ⟨n, hn, rfl⟩ := wb_of x
  rw [wb_shl n hk, bi_lN2, decide_eq_true hr, Bool.true_and, ← Nat.shiftLeft_eq, Nat.testBit_shiftLeft, bi_lN hn]
theorem bi_ushr (x : Int64) {k : Nat} (hk : k < 64) (r : Nat) : bi ((x.toUInt64 >>> ((nI k).toInt64.toUInt64 &&& Int64.toUInt64 63)).toInt64) r = bi x (r + k) := by
  obtain ⟨n, hn, rfl⟩ := wb_of x
  rw [wb_shr hn hk, bi_lN (Nat.lt_of_le_of_lt (Nat.div_le_self _ _) hn), bi_lN hn, Nat.testBit_div_two_pow]
theorem bi_0 (r : Nat) : bi 0 r = false := by unfold bi; simp
/-- number v is in a wide set -/
def wb (w : Nat → Int64) (v : Nat) : Bool := bi (w (v / 64)) (v % 64)
theorem fill_run {x : Int64} {n : Nat} (hn : n < 2 ^ 31) (g : Nat → Int64) : ∃ g2, fJ7_fill_d0a16 x n g = some g2 ∧ ∀ i, i < n → g2 i = x := by
  unfold fJ7_fill_d0a16
  simp only [lt_]
  refine run_inv0 (step := sJ7_fill_d0a16_6 x (Int32.ofNat n) n) n (fun i q => q.1 = nI i ∧ ∀ j, j < i → q.2 j = x) (fun g2 => ∀ i, i < n → g2 i = x) ?_ ?_ ⟨rfl, fun j hj => absurd hj (by omega)⟩
  · rintro i ⟨a, f⟩ hi ⟨rfl, hf⟩
    left
    refine ⟨(nI (i + 1), vp_updL f i x), ?_, rfl, fun j hj => ?_⟩
    · show bJ7_fill_d0a16_6 n x (Int32.ofNat n) (nI i) f = _
      unfold bJ7_fill_d0a16_6
      simp only [lt_]
      rw [brF (show ¬ Int32.ofNat n ≤ nI i from nI_ge hi hn), nI_clamp (by omega), gd_eq ⟨nI_pos (by omega), hi⟩, nI_1]
    · show vp_updL f i x j = x
      by_cases e : j = i
      · subst e; exact pk_uLs
      · rw [pk_uLn e]; exact hf j (by omega)
  · rintro ⟨a, f⟩ ⟨rfl, hf⟩
    refine ⟨f, ?_, hf⟩
    show bJ7_fill_d0a16_6 n x (Int32.ofNat n) (nI n) f = _
    unfold bJ7_fill_d0a16_6
    rw [brT (show Int32.ofNat n ≤ nI n from nI_le (Nat.le_refl n) hn)]
theorem become_eq (x : Int64) (g : Nat → Int64) : ∃ g2, fX6_become x g = some g2 ∧ (∀ v, v < 64 → wb g2 v = bi x v) ∧ ∀ v, 64 ≤ v → v < 256 → wb g2 v = false := by
  obtain ⟨g1, h1, h2⟩ := fill_run (x := 0) (n := 4) (by omega) g
  refine ⟨vp_updL g1 0 x, ?_, fun v hv => ?_, fun v hv hv2 => ?_⟩
  · unfold fX6_become
    rw [bd_eq h1, gd_eq (by decide)]
    rfl
  · unfold wb
    rw [show v / 64 = 0 by omega, show v % 64 = v by omega, pk_uLs]
  · unfold wb
    rw [pk_uLn (by omega), h2 _ (by omega)]
    exact bi_0 _
theorem carried_eq (x : Int64) {k : Nat} (hk : k ≤ 40) : ∃ y, fX6_carried x (nI k) = some y ∧ ∀ r, r < 64 → bi y r = (decide (r < k) && bi x (r + (64 - k))) := by
  unfold fX6_carried
  by_cases e : k = 0
  · subst e
    refine ⟨0, ?_, fun r _ => by rw [bi_0]; simp⟩
    rw [brT (by decide)]
  · refine ⟨_, by rw [brF (nI_ne0 (by omega) (by omega)), show (64 : Int32) - nI k = nI (64 - k) from pk_sub (a := 64) (by omega)], fun r hr => ?_⟩
    rw [bi_ushr x (by omega)]
    by_cases h : r < k
    · rw [decide_eq_true h, Bool.true_and]
    · rw [decide_eq_false h, Bool.false_and]
      exact bi_big (by omega)
theorem addMoved_eq {k : Nat} (hk : k ≤ 40) (w o : Nat → Int64) : ∃ w2, fX6_addMoved (nI k) w o = some w2 ∧ ∀ v, v < 256 → wb w2 v = (wb w v || (decide (k ≤ v) && wb o (v - k))) := by
  unfold fX6_addMoved
  simp only [lt_]
  rw [gd_eq (by decide), gd_eq (by decide), gd_eq (by decide), show (0 : Int32).toNatClampNeg = 0 from by decide]
  have key := run_inv0 (step := sX6_addMoved_19 (nI k) o) 3 (fun i q => q.1 = nI (i + 1) ∧ (∀ v, v < 64 * (i + 1) → wb q.2 v = (wb w v || (decide (k ≤ v) && wb o (v - k)))) ∧ ∀ j, i + 1 ≤ j → q.2 j = w j) (fun w2 => ∀ v, v < 256 → wb w2 v = (wb w v || (decide (k ≤ v) && wb o (v - k)))) (q := ((1 : Int32), vp_updL w 0 (w 0 ||| o 0 <<< ((nI k).toInt64 &&& 63))))
  refine key ?_ ?_ ?_
  · rintro i ⟨a, f⟩ hi ⟨rfl, hf, hw⟩
    left
    obtain ⟨y, y1, y2⟩ := carried_eq (o i) hk
    refine ⟨(nI (i + 2), vp_updL f (i + 1) (w (i + 1) ||| (o (i + 1) <<< ((nI k).toInt64 &&& 63) ||| y))), ?_, rfl, fun v hv => ?_, fun j hj => ?_⟩
    · show bX6_addMoved_19 (nI k) o (nI (i + 1)) f = _
      unfold bX6_addMoved_19
      simp only [lt_]
      rw [brF (show ¬ (4 : Int32) ≤ nI (i + 1) from nI_ge (b := 4) (by omega) (by omega)), show nI (i + 1) - 1 = nI i from nI_pred i, nI_clamp (by omega), nI_clamp (by omega), gd_eq ⟨nI_pos (by omega), by omega⟩, gd_eq ⟨nI_pos (by omega), by omega⟩, gd_eq ⟨nI_pos (by omega), by omega⟩, bd_eq y1, gd_eq ⟨nI_pos (by omega), by omega⟩, show f (i + 1) = w (i + 1) from hw (i + 1) (by omega), nI_1]
    · show wb (vp_updL f (i + 1) (w (i + 1) ||| (o (i + 1) <<< ((nI k).toInt64 &&& 63) ||| y))) v = _
      by_cases hlt : v < 64 * (i + 1)
      · rw [← hf v hlt]
        show bi (vp_updL f (i + 1) _ (v / 64)) (v % 64) = bi (f (v / 64)) (v % 64)
        rw [pk_uLn (by omega)]
      · have e1 : v / 64 = i + 1 := by omega
        show bi (vp_updL f (i + 1) _ (v / 64)) (v % 64) = (bi (w (v / 64)) (v % 64) || (decide (k ≤ v) && bi (o ((v - k) / 64)) ((v - k) % 64)))
        rw [e1, pk_uLs, bi_or, bi_or, bi_shl _ (by omega) (by omega), y2 _ (by omega), decide_eq_true (show k ≤ v by omega), Bool.true_and]
        congr 1
        by_cases hr : v % 64 < k
        · rw [decide_eq_false (show ¬ k ≤ v % 64 by omega), Bool.false_and, Bool.false_or, decide_eq_true hr, Bool.true_and, show (v - k) / 64 = i by omega, show (v - k) % 64 = v % 64 + (64 - k) by omega]
        · rw [decide_eq_true (show k ≤ v % 64 by omega), Bool.true_and, decide_eq_false hr, Bool.false_and, Bool.or_false, show (v - k) / 64 = i + 1 by omega, show (v - k) % 64 = v % 64 - k by omega]
    · show vp_updL f (i + 1) _ j = w j
      rw [pk_uLn (by omega)]
      exact hw j (by omega)
  · rintro ⟨a, f⟩ ⟨rfl, hf, hw⟩
    refine ⟨f, ?_, hf⟩
    show bX6_addMoved_19 (nI k) o (nI 4) f = _
    unfold bX6_addMoved_19
    rw [brT (by decide)]
  · refine ⟨rfl, fun v hv => ?_, fun j hj => pk_uLn (by omega)⟩
    show bi (vp_updL w 0 _ (v / 64)) (v % 64) = (bi (w (v / 64)) (v % 64) || (decide (k ≤ v) && bi (o ((v - k) / 64)) ((v - k) % 64)))
    rw [show v / 64 = 0 by omega, pk_uLs, bi_or, bi_shl _ (by omega) (by omega), show v % 64 = v by omega, show (v - k) / 64 = 0 by omega, show (v - k) % 64 = v - k by omega]
/-- v is a number of A and one of B together -/
def sS (A B : Nat → Bool) (n v : Nat) : Bool := decide (0 < fb_ct (fun a => A a && (decide (a ≤ v) && B (v - a))) n)
theorem sS_succ (A B : Nat → Bool) (n v : Nat) : sS A B (n + 1) v = (sS A B n v || (A n && (decide (n ≤ v) && B (v - n)))) := by
  unfold sS
  rw [fb_ct_succ]
  by_cases h : (A n && (decide (n ≤ v) && B (v - n))) = true
  · rw [h, if_pos rfl, decide_eq_true (by omega), Bool.or_true]
  · rw [if_neg h]
    simp only [Bool.not_eq_true] at h
    rw [h, Bool.or_false]
    rfl
theorem sS_iff {A B : Nat → Bool} {n v : Nat} : sS A B n v = true ↔ ∃ a, a < n ∧ A a = true ∧ a ≤ v ∧ B (v - a) = true := by
  unfold sS
  rw [decide_eq_true_iff, fb_ct_pos]
  simp
theorem becomeSums_eq (x : Int64) (w o : Nat → Int64) : ∃ w2, fX6_becomeSumsOf x w o = some w2 ∧ ∀ v, v < 256 → wb w2 v = sS (bi x) (wb o) 41 v := by
  obtain ⟨g1, h1, h2⟩ := fill_run (x := 0) (n := 4) (by omega) w
  unfold fX6_becomeSumsOf
  rw [bd_eq h1]
  refine run_inv0 (step := sX6_becomeSumsOf_11 x o) 41 (fun i q => q.1 = nI i ∧ ∀ v, v < 256 → wb q.2 v = sS (bi x) (wb o) i v) (fun w2 => ∀ v, v < 256 → wb w2 v = sS (bi x) (wb o) 41 v) ?_ ?_ ⟨rfl, fun v hv => ?_⟩
  · rintro i ⟨a, f⟩ hi ⟨rfl, hf⟩
    left
    obtain ⟨w2, m1, m2⟩ := addMoved_eq (k := i) (by omega) f o
    by_cases hb : bi x i = true
    · refine ⟨(nI (i + 1), w2), ?_, rfl, fun v hv => ?_⟩
      · show bX6_becomeSumsOf_11 x o (nI i) f = _
        unfold bX6_becomeSumsOf_11 bX6_becomeSumsOf_34
        simp only [lt_]
        rw [brF (show ¬ (40 : Int32) < nI i from nI_nlt (a := 40) (by omega) (by omega)), bd_eq (has_in hi), if_pos hb, brF (by decide), bd_eq m1, nI_1]
      · show wb w2 v = _
        rw [m2 v hv, sS_succ, hb, Bool.true_and, ← hf v hv]
    · refine ⟨(nI (i + 1), f), ?_, rfl, fun v hv => ?_⟩
      · show bX6_becomeSumsOf_11 x o (nI i) f = _
        unfold bX6_becomeSumsOf_11 bX6_becomeSumsOf_34
        simp only [lt_]
        rw [brF (show ¬ (40 : Int32) < nI i from nI_nlt (a := 40) (by omega) (by omega)), bd_eq (has_in hi), if_neg hb, brT rfl, nI_1]
      · show wb f v = _
        rw [sS_succ, hf v hv]
        simp [hb]
  · rintro ⟨a, f⟩ ⟨rfl, hf⟩
    refine ⟨f, ?_, hf⟩
    show bX6_becomeSumsOf_11 x o (nI 41) f = _
    unfold bX6_becomeSumsOf_11
    rw [brT (by decide)]
  · show bi (g1 (v / 64)) (v % 64) = _
    rw [h2 _ (by omega), bi_0]
    rfl
