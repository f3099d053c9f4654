theorem p8 : (8 : Int64) = (8 : Int32).toInt64 := by decide
theorem p14 : (14 : Int64) = (14 : Int32).toInt64 := by decide
theorem told_s (q1 q2 q3 : Int32) (sm : Nat → Int32) : (fX4_isTold q1 q2 = some 0 ∧ fX8_smallest q1 q2 q3 sm = some (-1, sm)) ∨ (∃ n l, q1 = nI n ∧ q2 = nI l ∧ tld n l ∧ fX4_isTold q1 q2 = some 1 ∧ fX8_smallest q1 q2 q3 sm = br ((-2 : Int32) ≤ q3) (run (sX8_smallest_55 q1 q2 q3) ((1000 : Int32), (0 : Int32), (1 : Int32), sm)) (some ((-1 : Int32), sm))) := by
  have e43 : bX4_isTold_43 = some 0 := by decide +kernel
  unfold fX4_isTold fX8_smallest bX8_smallest_30
  rw [e43, p1, p8, p0, p14, in8_dec, bd_eq rfl, in8_dec, bd_eq rfl, in8_dec, bd_eq rfl]
  by_cases h : q1 < 1 ∨ 8 < q1
  · left
    have hne : ¬ q1 = 1 := by
      rintro rfl
      exact absurd h (by decide)
    rw [if_pos h, brF hne]
    refine ⟨?_, brT rfl⟩
    by_cases h1 : q1 ≤ 1
    · rw [brT h1]
    · rw [brF h1, brT (h.resolve_left (fun z => h1 (Int32.le_of_lt z)))]
  · rw [if_neg h, brF (show ¬ (1 : Int32) = 0 by decide)]
    obtain ⟨n, hn, rfl⟩ := nI_of2 (x := q1) (M := 8) (n := 8) (by decide) (fun z => h (Or.inl (Int32.lt_trans z (by decide)))) (Int32.not_lt.mp (fun z => h (Or.inr z)))
    have hn1 : 1 ≤ n := by
      rcases Nat.eq_zero_or_pos n with e | e
      · subst e; exact absurd (Or.inl (by decide)) h
      · exact e
    by_cases e : n = 1
    · subst e
      rw [brT (show nI 1 = 1 from rfl), brT (show nI 1 = 1 from rfl), show nI 1 - 1 = (0 : Int32) from by decide]
      by_cases e2 : q2 = 0
      · subst e2
        right
        exact ⟨1, 0, rfl, rfl, Or.inl ⟨rfl, rfl⟩, by rw [brT rfl, gd_eq (Or.inr rfl)], by rw [if_neg (by decide), brF (show ¬ (1 : Int32) = 0 by decide)]⟩
      · left
        rw [brF e2, gd_eq (Or.inl rfl), if_pos]
        · exact ⟨rfl, brT rfl⟩
        · rcases fa_three q2 0 with z | z | z
          · exact Or.inl z
          · exact absurd z e2
          · exact Or.inr z
    · have hne : ¬ nI n = 1 := fun z => e ((nI_eq (b := 1) (by omega) (by omega)).mp z)
      rw [brF hne, brF hne, brF (show ¬ nI n ≤ (1 : Int32) from nI_ge (a := 1) (by omega) (by omega)), brF (show ¬ (8 : Int32) < nI n from nI_nlt (a := 8) (by omega) (by omega))]
      by_cases h2 : q2 < nI n - 1 ∨ 14 < q2
      · left
        rw [if_pos h2]
        refine ⟨?_, brT rfl⟩
        by_cases h3 : q2 < nI n - 1
        · rw [brT h3]
        · rw [brF h3, brT (h2.resolve_left h3)]
      · right
        have e1 : nI n - 1 = nI (n - 1) := by rw [show (1 : Int32) = nI 1 from rfl, pk_sub hn1]
        obtain ⟨l, hl, rfl⟩ := nI_of2 (x := q2) (M := 14) (n := 14) (by decide) (fun z => h2 (Or.inl (by rw [e1]; exact Int32.lt_of_lt_of_le z (nI_pos' (by omega))))) (Int32.not_lt.mp (fun z => h2 (Or.inr z)))
        have hl2 : n - 1 ≤ l := by
          rcases Nat.lt_or_ge l (n - 1) with z | z
          · exact absurd (Or.inl (by rw [e1]; exact nI_lt z (by omega))) h2
          · exact z
        refine ⟨n, l, rfl, rfl, Or.inr ⟨by omega, by omega, by omega, by omega⟩, ?_, ?_⟩
        · rw [brF (fun z => h2 (Or.inl z)), brF (fun z => h2 (Or.inr z)), gd_eq (Or.inr rfl)]
        · rw [if_neg h2, brF (show ¬ (1 : Int32) = 0 by decide)]
/-- the kept search of the smallest sets -/
def CM (nu le fe si : Int32) : Prop := nu = 0 ∨ ∃ n l, tld n l ∧ nu = nI n ∧ le = nI l ∧ fe = nI (cf n l (Bn l)).1 ∧ si = nI (cf n l (Bn l)).2
theorem sseek {n l : Nat} (h : tld n l) {nu le fe si : Int32} (hc : CM nu le fe si) : fX4_seek (nI n) (nI l) nu le fe si = some (nI n, nI l, nI (cf n l (Bn l)).1, nI (cf n l (Bn l)).2) := by
  have hn : 1 ≤ n ∧ n < 9 := by unfold tld at h; omega
  have hl : l < 15 := by unfold tld at h; omega
  unfold fX4_seek bX4_seek_17
  by_cases e1 : nI n = nu
  · rw [brT e1]
    by_cases e2 : nI l = le
    · rw [brT e2]
      rcases hc with z | ⟨n2, l2, z1, z2, z3, z4, z5⟩
      · rw [← e1] at z
        exact absurd z (nI_ne0 (by omega) (by omega))
      · have hn2 : n2 < 9 := by unfold tld at z1; omega
        have hl2 : l2 < 15 := by unfold tld at z1; omega
        rw [← e1] at z2
        rw [← e2] at z3
        have q1 := (nI_eq (by omega) (by omega)).mp z2
        have q2 := (nI_eq (by omega) (by omega)).mp z3
        subst q1
        subst q2
        rw [z4, z5, ← e1, ← e2]
    · rw [brF e2]; exact seek7 h fe
  · rw [brF e1]; exact seek7 h fe
theorem core_smallest {nu le fe si : Int32} (hc : CM nu le fe si) (q1 q2 q3 : Int32) (sm : Nat → Int32) : ∃ r nu2 le2 fe2 si2 sm2, fX7_smallest q1 q2 q3 nu le fe si = some (r, nu2, le2, fe2, si2) ∧ fX8_smallest q1 q2 q3 sm = some (r, sm2) ∧ CM nu2 le2 fe2 si2 := by
  rcases told_s q1 q2 q3 sm with ⟨t1, t2⟩ | ⟨n, l, rfl, rfl, ht, t1, t2⟩
  · refine ⟨-1, nu, le, fe, si, sm, ?_, t2, hc⟩
    unfold fX7_smallest
    rw [bd_eq t1, brT rfl]
  · have hn : 1 ≤ n ∧ n < 9 := by unfold tld at ht; omega
    have hl : l < 15 := by unfold tld at ht; omega
    obtain ⟨b1, b2, b3⟩ := betweens7 l hl
    by_cases h2 : (-2 : Int32) ≤ q3
    · rw [brT h2] at t2
      obtain ⟨sm2, r8⟩ := sm8_loop ht q3 sm
      have hok := cf_ok n l (Bn l)
      have hf1 := cf1_le n l (Bn l)
      have h2l : (2 : Int32) <<< (nI l &&& 31) = nI (2 * 2 ^ l) := shl (s := 2) (by omega) (by omega)
      have hCM : CM (nI n) (nI l) (nI (cf n l (Bn l)).1) (nI (cf n l (Bn l)).2) := Or.inr ⟨n, l, ht, rfl, rfl, rfl, rfl⟩
      have e7 : ∀ X, (fX7_smallest (nI n) (nI l) q3 nu le fe si = X) = (br (q3 = (-2 : Int32)) (some (nI (cf n l (Bn l)).2, nI n, nI l, nI (cf n l (Bn l)).1, nI (cf n l (Bn l)).2)) (br (q3 = (-1 : Int32)) (some (nI (cf n l (Bn l)).1, nI n, nI l, nI (cf n l (Bn l)).1, nI (cf n l (Bn l)).2)) (bd (fX4_setAt q3 (nI n) (nI l) (nI (cf n l (Bn l)).1) (nI (cf n l (Bn l)).2)) (fun u9 => some (u9, nI n, nI l, nI (cf n l (Bn l)).1, nI (cf n l (Bn l)).2)))) = X) := by
        intro X
        unfold fX7_smallest
        rw [bd_eq t1, brF (by decide), brT h2, bd_eq (sseek ht hc)]
        rfl
      have e8 : ∀ t, bX8_smallest_143 q3 (nI (cf n l (Bn l)).1) (nI (cf n l (Bn l)).2) sm2 = some t → (q3 < 0 ∨ ¬ q3 < nI (cf n l (Bn l)).2) → fX8_smallest (nI n) (nI l) q3 sm = some t := by
        intro t ht hq
        rw [t2, r8]
        refine run_inr ?_
        show bX8_smallest_55 (nI n) (nI l) q3 (nI (cf n l (Bn l)).1) (nI (cf n l (Bn l)).2) (nI (2 * 2 ^ l)) sm2 = _
        unfold bX8_smallest_55
        rw [h2l, brT (Int32.le_refl _), ht]
        by_cases z : q3 < 0
        · rw [brT z]; rfl
        · rw [brF z, brF (hq.resolve_left z)]; rfl
      by_cases q2' : q3 = -2
      · subst q2'
        refine ⟨nI (cf n l (Bn l)).2, nI n, nI l, nI (cf n l (Bn l)).1, nI (cf n l (Bn l)).2, sm2, ?_, ?_, hCM⟩
        · rw [e7, brT rfl]
        · refine e8 _ ?_ (Or.inl (by decide))
          unfold bX8_smallest_143
          rw [brF (by decide), brT rfl]
      · by_cases q1' : q3 = -1
        · subst q1'
          refine ⟨nI (cf n l (Bn l)).1, nI n, nI l, nI (cf n l (Bn l)).1, nI (cf n l (Bn l)).2, sm2, ?_, ?_, hCM⟩
          · rw [e7, brF (by decide), brT rfl]
          · refine e8 _ ?_ (Or.inl (by decide))
            unfold bX8_smallest_143
            rw [brT rfl]
        · have h0 : ¬ q3 < 0 := by
            intro z
            rw [Int32.lt_iff_toInt_lt] at z
            rw [Int32.le_iff_toInt_le] at h2
            have e1 : (-2 : Int32).toInt = -2 := by decide
            have e2 : (-1 : Int32).toInt = -1 := by decide
            have e3 : (0 : Int32).toInt = 0 := by decide
            have n1 : q3.toInt ≠ -2 := fun y => q2' (Int32.toInt_inj.mp (by rw [y, e1]))
            have n2 : q3.toInt ≠ -1 := fun y => q1' (Int32.toInt_inj.mp (by rw [y, e2]))
            omega
          obtain ⟨i, hi, rfl⟩ := nI_of h0
          by_cases hz : i < (cf n l (Bn l)).2
          · have hz2 := hz
            rw [hok.1] at hz2
            obtain ⟨b, c1, c2, c3⟩ := fb_ct_kth hz2
            obtain ⟨sm3, r9⟩ := sm8_at ht hf1 (by omega) c1 c2 c3 sm2
            refine ⟨nI (stw l b), nI n, nI l, nI (cf n l (Bn l)).1, nI (cf n l (Bn l)).2, sm3, ?_, ?_, hCM⟩
            · rw [e7, brF q2', brF q1', bd_eq (setAt7 ht hf1 (by omega) hz c1 c2 c3)]
            · rw [t2, r8]
              refine run_inr ?_
              show bX8_smallest_55 (nI n) (nI l) (nI i) (nI (cf n l (Bn l)).1) (nI (cf n l (Bn l)).2) (nI (2 * 2 ^ l)) sm2 = _
              unfold bX8_smallest_55
              rw [h2l, brT (Int32.le_refl _), brF h0, brT (nI_lt hz (by omega)), r9]
              rfl
          · refine ⟨-4, nI n, nI l, nI (cf n l (Bn l)).1, nI (cf n l (Bn l)).2, sm2, ?_, ?_, hCM⟩
            · rw [e7, brF q2', brF q1']
              unfold fX4_setAt
              rw [brF h0, brF (nI_nlt (by omega) hi)]
              rfl
            · refine e8 _ ?_ (Or.inr (nI_nlt (by omega) hi))
              unfold bX8_smallest_143
              rw [brF q1', brF q2']
    · refine ⟨-1, nu, le, fe, si, sm, ?_, ?_, hc⟩
      · unfold fX7_smallest
        rw [bd_eq t1, brF (by decide), brF h2]
      · rw [t2, brF h2]
