/-! lists of numbers -/
theorem run_inv0 {L T : Type} {step : L → Option (L ⊕ T)} (N : Nat) (I : Nat → L → Prop) (P : T → Prop) (hs : ∀ i q, i < N → I i q → (∃ q2, step q = some (.inl q2) ∧ I (i + 1) q2) ∨ (∃ t, step q = some (.inr t) ∧ P t)) (he : ∀ q, I N q → ∃ t, step q = some (.inr t) ∧ P t) {q : L} (h0 : I 0 q) : ∃ t, run step q = some t ∧ P t := run_inv N I P hs he N 0 q (by omega) h0
theorem run_val {T : Type} {o : Option T} {v : T} (h : ∃ t, o = some t ∧ t = v) : o = some v := by obtain ⟨t, h1, h2⟩ := h; rw [h1, h2]
/-- the row behind the numbers below n that have P are written -/
def lsF (P : Nat → Bool) (to : Nat → Int32) : Nat → Nat → Int32
  | 0 => to
  | n + 1 => if P n then upd (lsF P to n) (fb_ct P n) (nI n) else lsF P to n
theorem ct_lt {P : Nat → Bool} {v N : Nat} (hv : v < N) (hP : P v = true) : fb_ct P v < fb_ct P N := by
  have h1 : fb_ct P (v + 1) ≤ fb_ct P N := fb_ct_mono P (by omega)
  rw [fb_ct_succ, if_pos hP] at h1
  omega
theorem lsF_at {P : Nat → Bool} {to : Nat → Int32} : ∀ {N v : Nat}, v < N → P v = true → lsF P to N (fb_ct P v) = nI v := by
  intro N
  induction N with
  | zero => intro v hv; omega
  | succ N ih =>
    intro v hv hP
    show (if P N then upd (lsF P to N) (fb_ct P N) (nI N) else lsF P to N) (fb_ct P v) = _
    by_cases e : v = N
    · subst e; rw [if_pos hP]; exact pk_us
    · have hlt := ct_lt (show v < N by omega) hP
      by_cases hN : P N = true
      · rw [if_pos hN, pk_un (by omega)]; exact ih (by omega) hP
      · rw [if_neg hN]; exact ih (by omega) hP
theorem lsF_const {P : Nat → Bool} {to : Nat → Int32} {i : Nat} : ∀ {k : Nat}, fb_ct P (i + k) = fb_ct P i → lsF P to (i + k) = lsF P to i := by
  intro k
  induction k with
  | zero => intro _; rfl
  | succ k ih =>
    intro h
    have h1 := fb_ct_step P i k
    rw [show i + (k + 1) = (i + k) + 1 by omega, fb_ct_succ] at h
    have hn : ¬ P (i + k) = true := by
      intro z
      rw [if_pos z] at h
      omega
    rw [if_neg hn] at h
    show (if P (i + k) then _ else lsF P to (i + k)) = _
    rw [if_neg hn]
    exact ih h
theorem lists8_eq {sl : Nat → Int64} {nw : Nat → Int32} (h : RS sl nw) {k : Nat} (hk : k < 4) (to : Nat → Int32) : fX8_lists (nI k) 41 nw to = some (nI (cn sl k), lsF (bi (sl k)) to 41) := by
  unfold fX8_lists
  refine run_all (step := sX8_lists_5 (nI k) nw 41) 41 (fun i => (nI (fb_ct (bi (sl k)) i), nI i, lsF (bi (sl k)) to i)) _ ?_ ?_
  · intro i hi
    show bX8_lists_5 41 (nI k) nw (nI (fb_ct (bi (sl k)) i)) (nI i) (lsF (bi (sl k)) to i) = _
    have hc := fb_ct_le (bi (sl k)) i
    unfold bX8_lists_5 bX8_lists_35
    simp (disch := omega) only [lt_, lit, nI_add, pk_mul, nI_leI, nI_ltI, nI_clamp]
    rw [brF (by omega), gd_eq (by omega), (h k hk).1 i hi, gd_eq (by omega), fb_ct_succ, lsF]
    by_cases hb : bi (sl k) i = true
    · rw [if_pos hb, brF (by decide), if_pos hb, if_pos hb]
    · rw [if_neg hb, brT (by decide), if_neg hb, if_neg hb]; rfl
  · show bX8_lists_5 41 (nI k) nw (nI (cn sl k)) (nI 41) (lsF (bi (sl k)) to 41) = _
    unfold bX8_lists_5
    rw [brT (by decide)]
theorem lists7_eq (x : Int64) {n : Nat} (hn : n < 2 ^ 31) (hc : fb_ct (bi x) 41 ≤ n) (to : Nat → Int32) : fX7_listNumbers x n to = some (nI (fb_ct (bi x) 41), lsF (bi x) to 41) := by
  unfold fX7_listNumbers
  refine run_val ?_
  refine run_inv0 (step := sX7_listNumbers_5 x n) 41 (fun i q => q = (nI (fb_ct (bi x) i), nI i, lsF (bi x) to i)) (fun t => t = (nI (fb_ct (bi x) 41), lsF (bi x) to 41)) ?_ ?_ rfl
  · rintro i q hi rfl
    have hm : fb_ct (bi x) i ≤ fb_ct (bi x) 41 := fb_ct_mono _ (by omega)
    have hi41 := fb_ct_le (bi x) i
    show (∃ q2, bX7_listNumbers_5 n x (nI (fb_ct (bi x) i)) (nI i) (lsF (bi x) to i) = some (.inl q2) ∧ _) ∨ (∃ t, bX7_listNumbers_5 n x (nI (fb_ct (bi x) i)) (nI i) (lsF (bi x) to i) = some (.inr t) ∧ _)
    unfold bX7_listNumbers_5 bX7_listNumbers_35
    rw [brF (show ¬ (40 : Int32) < nI i from nI_nlt (a := 40) (by omega) (by omega))]
    by_cases hf : n ≤ fb_ct (bi x) i
    · right
      rw [brT (show Int32.ofNat n ≤ nI (fb_ct (bi x) i) from nI_le hf (by omega))]
      have e : fb_ct (bi x) 41 = fb_ct (bi x) i := by omega
      refine ⟨_, rfl, ?_⟩
      rw [e]
      have e2 := lsF_const (P := bi x) (to := to) (i := i) (k := 41 - i) (by rw [show i + (41 - i) = 41 by omega]; exact e)
      rw [show i + (41 - i) = 41 by omega] at e2
      rw [e2]
    · left
      rw [brF (show ¬ Int32.ofNat n ≤ nI (fb_ct (bi x) i) from nI_ge (by omega) hn), bd_eq (has_in hi)]
      simp only [lt_]
      rw [nI_clamp (by omega), gd_eq ⟨nI_pos (by omega), by omega⟩, nI_1, nI_1, fb_ct_succ]
      show ∃ q2, _ ∧ q2 = (_, _, if bi x i then upd (lsF (bi x) to i) (fb_ct (bi x) i) (nI i) else lsF (bi x) to i)
      by_cases hb : bi x i = true
      · rw [if_pos hb, if_pos hb, if_pos hb, brF (by decide)]; exact ⟨_, rfl, rfl⟩
      · rw [if_neg hb, if_neg hb, if_neg hb, brT rfl]; exact ⟨_, rfl, rfl⟩
  · rintro q rfl
    refine ⟨(nI (fb_ct (bi x) 41), lsF (bi x) to 41), ?_, rfl⟩
    show bX7_listNumbers_5 n x (nI (fb_ct (bi x) 41)) (nI 41) (lsF (bi x) to 41) = _
    unfold bX7_listNumbers_5
    rw [brT (by decide)]
/-- the i-th set bit -/
theorem numberAt_eq {x : Int64} {i v : Nat} (hv : v < 64) (hb : bi x v = true) (hc : fb_ct (bi x) v = i) : fX7_numberAt x (nI i) = some (nI v) := by
  have hlt := ct_lt (P := bi x) hv hb
  have h64 := fb_ct_le (bi x) 64
  unfold fX7_numberAt
  rw [brF (nI_pos (by omega)), bd_eq (bc_eq x), brT (show nI i < nI (fb_ct (bi x) 64) from nI_lt (by omega) (by omega))]
  refine run_val ?_
  refine run_inv0 (step := sX7_numberAt_20 (nI i)) i (fun j q => (∀ w, bi q.1 w = (bi x w && decide (j ≤ fb_ct (bi x) w))) ∧ q.2 = nI j) (fun t => t = nI v) ?_ ?_ ⟨fun w => by simp, rfl⟩
  · rintro j ⟨r, z⟩ hj ⟨hr, rfl⟩
    left
    obtain ⟨w, w1, w2, w3⟩ := fb_ct_kth (p := bi x) (k := j) (n := 64) (by omega)
    have hl : low r w := by
      refine ⟨w1, by rw [hr, w2, decide_eq_true (by omega)]; rfl, fun u hu => ?_⟩
      rw [hr]
      by_cases hu2 : bi x u = true
      · have := ct_lt hu hu2
        rw [decide_eq_false (by omega), Bool.and_false]
      · simp [hu2]
    refine ⟨(r &&& (r - 1), nI (j + 1)), ?_, fun u => ?_, rfl⟩
    · show bX7_numberAt_20 (nI i) r (nI j) = _
      unfold bX7_numberAt_20
      simp only [lt_]
      rw [brF (show ¬ nI i ≤ nI j from nI_ge hj (by omega)), nI_1]
    · show bi (r &&& (r - 1)) u = _
      rw [clear_low hl, hr]
      by_cases hu2 : bi x u = true
      · rw [hu2, Bool.true_and, Bool.true_and]
        by_cases e : u = w
        · subst e; rw [decide_eq_false (show ¬ (u ≠ u) from fun z => z rfl), decide_eq_false (show ¬ (j + 1 ≤ fb_ct (bi x) u) by omega), Bool.and_false]
        · rw [decide_eq_true e, Bool.and_true]
          have hne : fb_ct (bi x) u ≠ j := fun z => e (fb_ct_kth_one hu2 w2 (by omega))
          by_cases hle : j ≤ fb_ct (bi x) u
          · rw [decide_eq_true hle, decide_eq_true (by omega)]
          · rw [decide_eq_false hle, decide_eq_false (by omega)]
      · simp [hu2]
  · rintro ⟨r, z⟩ ⟨hr, rfl⟩
    have hl : low r v := by
      refine ⟨hv, by rw [hr, hb, decide_eq_true (by omega)]; rfl, fun u hu => ?_⟩
      rw [hr]
      by_cases hu2 : bi x u = true
      · have := ct_lt hu hu2
        rw [decide_eq_false (by omega), Bool.and_false]
      · simp [hu2]
    refine ⟨nI v, ?_, rfl⟩
    show bX7_numberAt_20 (nI i) r (nI i) = _
    unfold bX7_numberAt_20
    rw [brT (show nI i ≤ nI i from nI_le (Nat.le_refl i) (by omega)), bd_eq (leastOf_eq hl)]
theorem numberAt_none {x : Int64} {q : Int32} (h : q < 0 ∨ nI (fb_ct (bi x) 64) ≤ q) : fX7_numberAt x q = some (-4) := by
  unfold fX7_numberAt
  by_cases h0 : q < 0
  · rw [brT h0]
  · rw [brF h0, bd_eq (bc_eq x), brF (Int32.not_lt.mpr (h.resolve_left h0))]
