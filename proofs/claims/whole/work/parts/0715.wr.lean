theorem wide_lt {x y : Int32} (h : x < y) : x.toInt64 < y.toInt64 := (fa_wide_lt _ _).mpr h
theorem wide_nlt {x y : Int32} (h : ¬ x < y) : ¬ x.toInt64 < y.toInt64 := fun z => h ((fa_wide_lt _ _).mp z)
theorem core_write {le mt : Nat → Int32} {ln ml_ : Int32} (h : RT le ln ml_ mt) (q : Int32) : ∃ r ln2 le2 ml2 mt2, fX7_write q ln le = some (r, ln2, le2) ∧ fX8_write q ml_ mt = some (r, ml2, mt2) ∧ RT le2 ln2 ml2 mt2 := by
  have k32 : (32 : Int64) = (32 : Int32).toInt64 := by decide
  have k126 : (126 : Int64) = (126 : Int32).toInt64 := by decide
  by_cases h1 : q < 32
  · refine ⟨-1, ln, le, ml_, mt, ?_, ?_, h⟩
    · unfold fX7_write; rw [brT h1]
    · unfold fX8_write
      rw [bd_eq (in8_no (Or.inl (by rw [k32]; exact wide_lt h1))), brT rfl]
  · by_cases h2 : q ≤ 126
    · have h0 : ¬ q < 0 := by
        intro z
        rw [Int32.lt_iff_toInt_lt] at z h1
        rw [show (0 : Int32).toInt = 0 from rfl] at z
        rw [show (32 : Int32).toInt = 32 from rfl] at h1
        omega
      obtain ⟨c, hc, rfl⟩ := nI_of2 (x := q) (M := 126) (n := 126) (by decide) h0 h2
      have hc2 : 32 ≤ c := by
        rcases Nat.lt_or_ge c 32 with z | z
        · exact absurd (show nI c < nI 32 from nI_lt z (by omega)) h1
        · exact z
      obtain ⟨n, hn, rfl, rfl, hl⟩ := h
      have e7 : fX7_write (nI c) (nI n) le = bd (fX3_append (nI c) (nI n) le) (fun u3 => br (u3.1 = 0) (some (((-3 : Int32), u3.2.1, u3.2.2))) (bd (fX3_length u3.2.1) (fun u5 => some ((u5, u3.2.1, u3.2.2))))) := by
        unfold fX7_write
        rw [brF h1, brT h2]
      have e8 : fX8_write (nI c) (nI n) mt = br (nI n = (200 : Int32)) (some (((-3 : Int32), nI n, mt))) (gd (¬ nI n < 0 ∧ (nI n).toNatClampNeg < 200) (lt_ (upd mt (nI n).toNatClampNeg (nI c)) (fun y5 => lt_ (nI n + (1 : Int32)) (fun y6 => some ((y6, y6, y5)))))) := by
        unfold fX8_write
        rw [bd_eq (in8_yes (by rw [k32]; exact wide_nlt h1) (by rw [k126]; exact wide_nlt (Int32.not_lt.mpr h2))), brF (by decide)]
      rw [e7, e8]
      by_cases h200 : n = 200
      · subst h200
        refine ⟨-3, nI 200, le, nI 200, mt, ?_, ?_, 200, hn, rfl, rfl, hl⟩
        · unfold fX3_append
          rw [brF (by decide), gd_eq (by decide)]
          rfl
        · rw [brT (by decide)]
      · have hcl : (nI n).toNatClampNeg = n := nI_clamp (by omega)
        have hch : vp_nar .char ((nI c).toUInt32 % 65536).toInt32 = nI c := by
          rw [pk_vc, pk_char, pk_tn (by omega), Nat.mod_eq_of_lt (by omega)]
        refine ⟨nI (n + 1), nI (n + 1), upd le n (nI c), nI (n + 1), upd mt n (nI c), ?_, ?_, n + 1, by omega, rfl, rfl, ?_⟩
        · unfold fX3_append
          rw [brT (show nI n < (200 : Int32) from nI_lt (b := 200) (by omega) (by omega))]
          simp only [lt_]
          rw [gd_eq (show ¬ nI n < 0 ∧ (nI n).toNatClampNeg < 200 from ⟨nI_pos (by omega), by rw [hcl]; omega⟩), gd_eq (by decide), hch, hcl, show nI n + 1 = nI (n + 1) from nI_1 n, bd_eq rfl, brF (show ¬ (1 : Int32) = 0 by decide)]
          rfl
        · rw [brF (show ¬ nI n = (200 : Int32) from fun z => h200 ((nI_eq (by omega) (by omega)).mp z)), gd_eq ⟨nI_pos (by omega), by rw [hcl]; omega⟩]
          simp only [lt_]
          rw [hcl, show nI n + 1 = nI (n + 1) from nI_1 n]
        · intro i hi
          by_cases e : i = n
          · subst e
            exact ⟨c, hc2, hc, pk_us, pk_us⟩
          · obtain ⟨d, d1, d2, d3, d4⟩ := hl i (by omega)
            exact ⟨d, d1, d2, by rw [pk_un e]; exact d3, by rw [pk_un e]; exact d4⟩
    · refine ⟨-1, ln, le, ml_, mt, ?_, ?_, h⟩
      · unfold fX7_write; rw [brF h1, brF h2]
      · unfold fX8_write
        rw [bd_eq (in8_no (Or.inr (by rw [k126]; exact wide_lt (Int32.not_le.mp h2)))), brT rfl]
theorem core_wipe {le mt : Nat → Int32} {ln ml_ : Int32} (h : RT le ln ml_ mt) : ∃ r ln2 ml2, fX7_wipe ln = some (r, ln2) ∧ fX8_wipe ml_ = some (r, ml2) ∧ RT le ln2 ml2 mt := by
  obtain ⟨n, hn, rfl, rfl, hl⟩ := h
  exact ⟨nI n, 0, 0, rfl, rfl, 0, by omega, rfl, rfl, fun i hi => absurd hi (by omega)⟩
