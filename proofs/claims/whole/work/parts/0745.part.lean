/-! parts of a set and their sums -/
/-- the numbers of A that part p has, from the t-th on -/
def pa (A : Nat → Bool) (t p e : Nat) : Bool := A e && (p.testBit (fb_ct A e) && decide (t ≤ fb_ct A e))
theorem pa_iff {A : Nat → Bool} {t p e : Nat} : pa A t p e = true ↔ A e = true ∧ p.testBit (fb_ct A e) = true ∧ t ≤ fb_ct A e := by
  unfold pa; simp
def gm (A B : Nat → Bool) (p : Nat) : Nat := fb_ct (sS (pa A 0 p) B 41) 81
theorem gm_le (A B : Nat → Bool) (p : Nat) : gm A B p ≤ 81 := fb_ct_le _ _
def w2 (lo hi : Int64) (v : Nat) : Bool := if v < 64 then bi lo v else bi hi (v - 64)
theorem w2_add {lo hi y c : Int64} {e : Nat} (he : e ≤ 40) (hy : ∀ v, 41 ≤ v → bi y v = false) (hc : ∀ r, r < 64 → bi c r = (decide (r < e) && bi y (r + (64 - e)))) {v : Nat} (hv : v < 128) : w2 (lo ||| (y <<< ((nI e).toInt64 &&& 63))) (hi ||| c) v = (w2 lo hi v || (decide (e ≤ v) && bi y (v - e))) := by
  unfold w2
  by_cases h : v < 64
  · rw [if_pos h, if_pos h, bi_or, bi_shl y (by omega) h]
  · rw [if_neg h, if_neg h, bi_or, hc _ (by omega), decide_eq_true (show e ≤ v by omega), Bool.true_and]
    by_cases h2 : v - 64 < e
    · rw [decide_eq_true h2, Bool.true_and, show v - 64 + (64 - e) = v - e by omega]
    · rw [decide_eq_false h2, Bool.false_and, hy (v - e) (by omega)]
theorem addUp_eq {A : Nat → Bool} {y : Int64} (hy : ∀ v, 41 ≤ v → bi y v = false) {nu : Nat → Int32} (hnu : ∀ e, e < 41 → A e = true → nu (fb_ct A e) = nI e) {p k : Nat} (hk : lowN p k) (hkn : k < fb_ct A 41) (hn : fb_ct A 41 ≤ 12) {lo hi : Nat → Int64} (hr : ∀ t, t ≤ 12 → ∀ v, v < 128 → w2 (lo t) (hi t) v = sS (pa A t (p - 1)) (bi y) 41 v) :
    ∃ lo2 hi2, fX5_addUp (nI k) y nu lo hi = some (lo2, hi2) ∧ ∀ t, t ≤ 12 → ∀ v, v < 128 → w2 (lo2 t) (hi2 t) v = sS (pa A t p) (bi y) 41 v := by
  obtain ⟨e0, e1, e2, e3⟩ := fb_ct_kth hkn
  have hn0 : nu k = nI e0 := by rw [← e3]; exact hnu e0 e1 e2
  obtain ⟨c, c1, c2⟩ := carried_eq y (k := e0) (by omega)
  have bits : ∀ i, k < i → (p - 1).testBit i = p.testBit i := by
    intro i hi
    rw [low_pred hk, if_neg (by omega), decide_eq_true (by omega), Bool.and_true]
  have hval : ∀ v, v < 128 → w2 (lo (k + 1) ||| (y <<< ((nI e0).toInt64 &&& 63))) (hi (k + 1) ||| c) v = sS (pa A k p) (bi y) 41 v := by
    intro v hv
    rw [w2_add (by omega) hy c2 hv, hr (k + 1) (by omega) v hv, Bool.eq_iff_iff, Bool.or_eq_true, sS_iff, sS_iff, Bool.and_eq_true, decide_eq_true_iff]
    constructor
    · rintro (⟨a, a1, a2, a3, a4⟩ | ⟨a3, a4⟩)
      · rw [pa_iff] at a2
        refine ⟨a, a1, pa_iff.mpr ⟨a2.1, ?_, by omega⟩, a3, a4⟩
        rw [← bits _ (by omega)]; exact a2.2.1
      · exact ⟨e0, e1, pa_iff.mpr ⟨e2, by rw [e3]; exact hk.1, by omega⟩, a3, a4⟩
    · rintro ⟨a, a1, a2, a3, a4⟩
      rw [pa_iff] at a2
      by_cases ea : fb_ct A a = k
      · have := fb_ct_kth_one a2.1 e2 (by omega)
        subst this
        exact Or.inr ⟨a3, a4⟩
      · refine Or.inl ⟨a, a1, pa_iff.mpr ⟨a2.1, ?_, by omega⟩, a3, a4⟩
        rw [bits _ (by omega)]; exact a2.2.1
  have hlow : ∀ t, t ≤ k → ∀ v, sS (pa A t p) (bi y) 41 v = sS (pa A k p) (bi y) 41 v := by
    intro t ht v
    rw [Bool.eq_iff_iff, sS_iff, sS_iff]
    constructor
    · rintro ⟨a, a1, a2, a3, a4⟩
      rw [pa_iff] at a2
      refine ⟨a, a1, pa_iff.mpr ⟨a2.1, a2.2.1, ?_⟩, a3, a4⟩
      rcases Nat.lt_or_ge (fb_ct A a) k with z | z
      · rw [hk.2 _ z] at a2; cases a2.2.1
      · exact z
    · rintro ⟨a, a1, a2, a3, a4⟩
      rw [pa_iff] at a2
      exact ⟨a, a1, pa_iff.mpr ⟨a2.1, a2.2.1, by omega⟩, a3, a4⟩
  have hhigh : ∀ t, k < t → ∀ v, sS (pa A t p) (bi y) 41 v = sS (pa A t (p - 1)) (bi y) 41 v := by
    intro t ht v
    rw [Bool.eq_iff_iff, sS_iff, sS_iff]
    constructor
    · rintro ⟨a, a1, a2, a3, a4⟩
      rw [pa_iff] at a2
      exact ⟨a, a1, pa_iff.mpr ⟨a2.1, by rw [bits _ (by omega)]; exact a2.2.1, a2.2.2⟩, a3, a4⟩
    · rintro ⟨a, a1, a2, a3, a4⟩
      rw [pa_iff] at a2
      exact ⟨a, a1, pa_iff.mpr ⟨a2.1, by rw [← bits _ (by omega)]; exact a2.2.1, a2.2.2⟩, a3, a4⟩
  unfold fX5_addUp
  simp only [lt_]
  rw [brF (nI_pos (by omega)), brT (show nI k < (12 : Int32) from nI_lt (b := 12) (by omega) (by omega)), nI_clamp (by omega), gd_eq ⟨nI_pos (by omega), by omega⟩, nI_1, nI_clamp (by omega), gd_eq ⟨nI_pos (by omega), by omega⟩, gd_eq ⟨nI_pos (by omega), by omega⟩, hn0, bd_eq c1]
  have key := run_inv0 (step := sX5_addUp_56 (nI k) (lo (k + 1) ||| (y <<< ((nI e0).toInt64 &&& 63))) (hi (k + 1) ||| c) y nu) (k + 1) (fun i q => q.1 = nI i ∧ (∀ t, t < i → q.2.1 t = lo (k + 1) ||| (y <<< ((nI e0).toInt64 &&& 63)) ∧ q.2.2 t = hi (k + 1) ||| c) ∧ ∀ t, i ≤ t → q.2.1 t = lo t ∧ q.2.2 t = hi t) (fun t => ∃ lo2 hi2, t = (lo2, hi2) ∧ ∀ t, t ≤ 12 → ∀ v, v < 128 → w2 (lo2 t) (hi2 t) v = sS (pa A t p) (bi y) 41 v) (by
    rintro i ⟨x, f, g⟩ hi' ⟨rfl, h1, h2⟩
    show (∃ q2, bX5_addUp_56 (nI k) (lo (k + 1) ||| (y <<< ((nI e0).toInt64 &&& 63))) (hi (k + 1) ||| c) y nu (nI i) f g = _ ∧ _) ∨ _
    unfold bX5_addUp_56
    simp only [lt_]
    rw [brF (nI_nlt (by omega) (by omega)), nI_clamp (by omega), gd_eq ⟨nI_pos (by omega), by omega⟩, gd_eq ⟨nI_pos (by omega), by omega⟩]
    refine Or.inl ⟨_, rfl, nI_1 i, fun t ht => ?_, fun t ht => ?_⟩
    · by_cases e : t = i
      · subst e; exact ⟨pk_uLs, pk_uLs⟩
      · refine ⟨(pk_uLn e).trans ?_, (pk_uLn e).trans ?_⟩
        · exact (h1 t (by omega)).1
        · exact (h1 t (by omega)).2
    · refine ⟨(pk_uLn (by omega)).trans ?_, (pk_uLn (by omega)).trans ?_⟩
      · exact (h2 t (by omega)).1
      · exact (h2 t (by omega)).2) (by
    rintro ⟨x, f, g⟩ ⟨rfl, h1, h2⟩
    show (∃ t, bX5_addUp_56 (nI k) (lo (k + 1) ||| (y <<< ((nI e0).toInt64 &&& 63))) (hi (k + 1) ||| c) y nu (nI (k + 1)) f g = _ ∧ _)
    unfold bX5_addUp_56
    rw [brT (nI_lt (by omega) (by omega))]
    refine ⟨_, rfl, f, g, rfl, fun t ht v hv => ?_⟩
    by_cases htk : t < k + 1
    · have z1 : f t = _ := (h1 t htk).1
      have z2 : g t = _ := (h1 t htk).2
      rw [z1, z2, hval v hv, hlow t (by omega)]
    · have z1 : f t = _ := (h2 t (by omega)).1
      have z2 : g t = _ := (h2 t (by omega)).2
      rw [z1, z2, hr t ht v hv, hhigh t (by omega)]) (q := ((0 : Int32), lo, hi)) ⟨rfl, fun t ht => absurd ht (by omega), fun _ _ => ⟨rfl, rfl⟩⟩
  obtain ⟨t, h1, lo2, hi2, rfl, h2⟩ := key
  exact ⟨lo2, hi2, h1, h2⟩
