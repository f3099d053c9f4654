theorem wb_at (w : Nat → Int64) {i r : Nat} (hr : r < 64) : wb w (64 * i + r) = bi (w i) r := by
  unfold wb
  rw [show (64 * i + r) / 64 = i by omega, show (64 * i + r) % 64 = r by omega]
theorem ctw_succ (w : Nat → Int64) (i : Nat) : fb_ct (wb w) (64 * (i + 1)) = fb_ct (wb w) (64 * i) + fb_ct (bi (w i)) 64 := by
  rw [show 64 * (i + 1) = 64 * i + 64 by omega, fb_ct_split]
  congr 1
  exact fb_ct_cong (fun r hr => wb_at w hr)
theorem size6_eq (w : Nat → Int64) : fX6_size w = some (nI (fb_ct (wb w) 256)) := by
  unfold fX6_size
  refine run_all (step := sX6_size_4 w) 4 (fun i => (nI (fb_ct (wb w) (64 * i)), nI i)) _ ?_ ?_
  · intro i hi
    show bX6_size_4 w (nI (fb_ct (wb w) (64 * i))) (nI i) = _
    unfold bX6_size_4
    simp only [lt_]
    rw [brF (show ¬ (4 : Int32) ≤ nI i from nI_ge (b := 4) hi (by omega)), cl4 hi, g4 hi, bd_eq (bc_eq _), nI_add, nI_1, ctw_succ]
  · show bX6_size_4 w (nI (fb_ct (wb w) (64 * 4))) (nI 4) = _
    unfold bX6_size_4
    rw [brT (by decide)]
theorem place_eq {w : Nat → Int64} {n v : Nat} (hv : v < 256) (hb : wb w v = true) (hc : fb_ct (wb w) v = n) : fX6_numberAtPlace (nI n) w = some (nI v) := by
  have h256 := fb_ct_le (wb w) v
  unfold fX6_numberAtPlace
  refine run_val ?_
  refine run_inv0 (step := sX6_numberAtPlace_4 w) (v / 64) (fun i q => q = (nI (n - fb_ct (wb w) (64 * i)), nI i)) _ ?_ ?_ rfl
  · rintro i q hi rfl
    left
    have hm : fb_ct (wb w) (64 * (i + 1)) ≤ n := by rw [← hc]; exact fb_ct_mono _ (by omega)
    have hs := ctw_succ w i
    refine ⟨_, ?_, rfl⟩
    show bX6_numberAtPlace_4 w (nI (n - fb_ct (wb w) (64 * i))) (nI i) = _
    unfold bX6_numberAtPlace_4
    simp only [lt_]
    rw [brF (show ¬ (4 : Int32) ≤ nI i from nI_ge (b := 4) (by omega) (by omega)), cl4 (by omega), g4 (by omega), bd_eq (bc_eq _), brT (nI_le (by omega) (by omega)), pk_sub (by omega), nI_1]
    rw [show n - fb_ct (wb w) (64 * i) - fb_ct (bi (w i)) 64 = n - fb_ct (wb w) (64 * (i + 1)) by omega]
  · rintro q rfl
    have e := fb_ct_split (wb w) (64 * (v / 64)) (v % 64)
    rw [show 64 * (v / 64) + v % 64 = v by omega, fb_ct_cong (q := bi (w (v / 64))) (fun r hr => wb_at w (by omega))] at e
    have hb2 : bi (w (v / 64)) (v % 64) = true := hb
    have hlt := ct_lt (P := bi (w (v / 64))) (show v % 64 < 64 by omega) hb2
    have h64 := fb_ct_le (bi (w (v / 64))) 64
    refine ⟨nI v, ?_, rfl⟩
    show bX6_numberAtPlace_4 w (nI (n - fb_ct (wb w) (64 * (v / 64)))) (nI (v / 64)) = _
    unfold bX6_numberAtPlace_4
    rw [brF (show ¬ (4 : Int32) ≤ nI (v / 64) from nI_ge (b := 4) (by omega) (by omega)), cl4 (by omega), g4 (by omega), bd_eq (bc_eq _), brF (nI_ge (by omega) (by omega)), g4 (by omega), bd_eq (numberAt_eq (v := v % 64) (by omega) hb2 (by omega)), show (64 : Int32) = nI 64 from rfl, pk_mul, nI_add, show 64 * (v / 64) + v % 64 = v by omega]
theorem place_none {w : Nat → Int64} {n : Nat} (hn : n < 2 ^ 31) (h : fb_ct (wb w) 256 ≤ n) : fX6_numberAtPlace (nI n) w = some (-4) := by
  unfold fX6_numberAtPlace
  refine run_val ?_
  refine run_inv0 (step := sX6_numberAtPlace_4 w) 4 (fun i q => q = (nI (n - fb_ct (wb w) (64 * i)), nI i)) _ ?_ ?_ rfl
  · rintro i q hi rfl
    left
    have hm : fb_ct (wb w) (64 * (i + 1)) ≤ fb_ct (wb w) 256 := fb_ct_mono _ (by omega)
    have hs := ctw_succ w i
    refine ⟨_, ?_, rfl⟩
    show bX6_numberAtPlace_4 w (nI (n - fb_ct (wb w) (64 * i))) (nI i) = _
    unfold bX6_numberAtPlace_4
    simp only [lt_]
    rw [brF (show ¬ (4 : Int32) ≤ nI i from nI_ge (b := 4) (by omega) (by omega)), cl4 (by omega), g4 (by omega), bd_eq (bc_eq _), brT (nI_le (by omega) (by omega)), pk_sub (by omega), nI_1]
    rw [show n - fb_ct (wb w) (64 * i) - fb_ct (bi (w i)) 64 = n - fb_ct (wb w) (64 * (i + 1)) by omega]
  · rintro q rfl
    refine ⟨-4, ?_, rfl⟩
    show bX6_numberAtPlace_4 w _ (nI 4) = _
    unfold bX6_numberAtPlace_4
    rw [brT (by decide)]
theorem findSums_eq (x y : Int64) (hy : ∀ v, 41 ≤ v → bi y v = false) (w o : Nat → Int64) : ∃ w2 o2, fX7_findSums x y w o = some (w2, o2) ∧ ∀ v, v < 256 → wb w2 v = sS (bi x) (bi y) 41 v := by
  obtain ⟨o2, h1, h2, h3⟩ := become_eq y o
  obtain ⟨w2, h4, h5⟩ := becomeSums_eq x w o2
  refine ⟨w2, o2, ?_, fun v hv => ?_⟩
  · unfold fX7_findSums
    rw [bd_eq h1, bd_eq h4]
  · rw [h5 v hv]
    unfold sS
    congr 2
    refine fb_ct_cong (fun a ha => ?_)
    congr 2
    by_cases h64 : v - a < 64
    · exact h2 _ h64
    · rw [h3 _ (by omega) (by omega), hy _ (by omega)]
theorem sS_big {A B : Nat → Bool} (hB : ∀ v, 41 ≤ v → B v = false) {v : Nat} (hv : 81 ≤ v) : sS A B 41 v = false := by
  cases h : sS A B 41 v with
  | false => rfl
  | true =>
    obtain ⟨a, a1, a2, a3, a4⟩ := sS_iff.mp h
    rw [hB _ (by omega)] at a4
    cases a4
theorem ct_S {A B : Nat → Bool} (hB : ∀ v, 41 ≤ v → B v = false) {P : Nat → Bool} (hP : ∀ v, v < 256 → P v = sS A B 41 v) : fb_ct P 256 = fb_ct (sS A B 41) 241 := by
  rw [fb_ct_cong hP, show (256 : Nat) = 241 + 15 from rfl, fb_ct_split]
  have e : fb_ct (fun k => sS A B 41 (241 + k)) 15 = 0 := fb_ct_zero.mpr (fun k _ => sS_big hB (by omega))
  rw [e]; omega
/-- whether the greatest of a wide set is above 40 -/
theorem greatest_run (w : Nat → Int64) : ∀ i, i ≤ 4 → (∀ j, i ≤ j → j < 4 → w j = 0) → ∃ g, run (sX6_greatest_2 w) (nI i + (-1)) = some g ∧ (40 < g ↔ ∃ v, 41 ≤ v ∧ v < 256 ∧ wb w v = true) := by
  intro i
  induction i with
  | zero =>
    intro _ h
    refine ⟨-4, run_inr ?_, ?_⟩
    · show bX6_greatest_2 w (nI 0 + (-1)) = _
      unfold bX6_greatest_2
      rw [brT (by decide)]
    · constructor
      · intro z; exact absurd z (by decide)
      · rintro ⟨v, v1, v2, v3⟩
        unfold wb at v3
        rw [h (v / 64) (by omega) (by omega), bi_0] at v3
        cases v3
  | succ i ih =>
    intro hi h
    have e1 : nI (i + 1) + (-1) = nI i := pk_m1 i
    by_cases hz : w i = 0
    · have es : sX6_greatest_2 w (nI i) = some (.inl (nI i + (-1))) := by
        show bX6_greatest_2 w (nI i) = _
        unfold bX6_greatest_2
        simp only [lt_]
        rw [brF (nI_pos (by omega)), cl4 (by omega), g4 (by omega), brT ((cmp_eq _ _).mpr hz)]
      rw [e1, run_inl es]
      refine ih (by omega) (fun j hj hj4 => ?_)
      by_cases e : j = i
      · subst e; exact hz
      · exact h j (by omega) hj4
    · have hne : fb_ct (bi (w i)) 64 ≠ 0 := by
        intro z
        apply hz
        refine bi_ext (fun r hr => ?_)
        rw [fb_ct_zero.mp z r hr, bi_0]
      obtain ⟨-, b, b1, b2, b3⟩ := ends_of hne
      have ht : top (w i) b := ⟨b1, b2, fun r hr => by
        by_cases h64 : r < 64
        · exact b3 r hr h64
        · exact bi_big (by omega)⟩
      refine ⟨nI (64 * i + b), ?_, ?_⟩
      · rw [e1]
        refine run_inr ?_
        show bX6_greatest_2 w (nI i) = _
        unfold bX6_greatest_2
        rw [brF (nI_pos (by omega)), cl4 (by omega), g4 (by omega), brF (fun z => hz ((cmp_eq _ _).mp z)), g4 (by omega), bd_eq (greatestOf_eq ht), show (64 : Int32) = nI 64 from rfl, pk_mul, nI_add]
      · have hw : wb w (64 * i + b) = true := by rw [wb_at w b1]; exact b2
        constructor
        · intro z
          have : 40 < 64 * i + b := (nI_ltI (a := 40) (by omega) (by omega)).mp z
          exact ⟨64 * i + b, by omega, by omega, hw⟩
        · rintro ⟨v, v1, v2, v3⟩
          refine (nI_ltI (a := 40) (by omega) (by omega)).mpr ?_
          have hv : v ≤ 64 * i + b := by
            rcases Nat.lt_or_ge (64 * i + b) v with q | q
            · exfalso
              unfold wb at v3
              by_cases e : v / 64 = i
              · rw [e, ht.2.2 (v % 64) (by omega)] at v3
                cases v3
              · rw [h (v / 64) (by omega) (by omega), bi_0] at v3
                cases v3
            · exact q
          omega
theorem greatest_eq (w : Nat → Int64) : ∃ g, fX6_greatest w = some g ∧ (40 < g ↔ ∃ v, 41 ≤ v ∧ v < 256 ∧ wb w v = true) := greatest_run w 4 (by omega) (fun j h1 h2 => absurd h1 (by omega))
