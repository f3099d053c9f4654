theorem ct_first {P : Nat → Bool} {k0 : Nat} (h : ∀ i, i < k0 → P i = false) : fb_ct P k0 = 0 := fb_ct_zero.mpr h
theorem ct_last {P : Nat → Bool} {k1 N : Nat} (h1 : k1 < N) (hP : P k1 = true) (h : ∀ i, k1 < i → P i = false) : fb_ct P k1 + 1 = fb_ct P N := by
  have e : N = (k1 + 1) + (N - (k1 + 1)) := by omega
  rw [e, fb_ct_split, fb_ct_succ, if_pos hP]
  have z : fb_ct (fun k => P (k1 + 1 + k)) (N - (k1 + 1)) = 0 := fb_ct_zero.mpr (fun i _ => h _ (by omega))
  rw [z]
theorem findCover_eq {sl : Nat → Int64} {nw : Nat → Int32} (h : RS sl nw) {k : Nat} (hk : k < 4) {k0 k1 : Nat} (h0 : low (sl k) k0) (h041 : k0 < 41) (h1 : top (sl k) k1) (h141 : k1 < 41) (fi : Nat → Int32) (s0 c0 : Int32) :
    fX8_findCover (nI (cn sl k)) s0 c0 (lsF (bi (sl k)) fi 41) = some (nI (cS (sl k) k0), nI ((k1 - k0) / cS (sl k) k0 + 1)) := by
  have hle : k0 ≤ k1 := by
    rcases Nat.lt_or_ge k1 k0 with z | z
    · have := h1.2.2 k0 z
      rw [h0.2.1] at this; cases this
    · exact z
  have hf0 : lsF (bi (sl k)) fi 41 0 = nI k0 := by
    have e := lsF_at (P := bi (sl k)) (to := fi) h041 h0.2.1
    rw [ct_first h0.2.2] at e; exact e
  have hl := ct_last h141 h1.2.1 h1.2.2
  have hf1 : lsF (bi (sl k)) fi 41 (cn sl k - 1) = nI k1 := by
    have e := lsF_at (P := bi (sl k)) (to := fi) h141 h1.2.1
    have e2 : cn sl k - 1 = fb_ct (bi (sl k)) k1 := by unfold cn; omega
    rw [e2]; exact e
  have hpos : 1 ≤ cn sl k := by unfold cn; omega
  have hcn := cn_le sl k
  unfold fX8_findCover
  refine run_val ?_
  refine run_inv0 (step := sX8_findCover_7 (nI (cn sl k)) c0 (lsF (bi (sl k)) fi 41)) (cn sl k - 1) (fun i q => ∃ N, N ≤ 41 ∧ fb_ct (bi (sl k)) N = i + 1 ∧ q = (nI (i + 1), nI (gS (bi (sl k)) k0 N))) _ ?_ ?_ ⟨k0 + 1, by omega, by rw [fb_ct_succ, ct_first h0.2.2, if_pos h0.2.1], by rw [gS_first h0.2.2]; rfl⟩
  · rintro i q hi ⟨N, N1, N2, rfl⟩
    left
    obtain ⟨v, v1, v2, v3⟩ := fb_ct_kth (p := bi (sl k)) (k := i + 1) (n := 41) (show i + 1 < cn sl k by omega)
    have hv0 : k0 ≤ v := by
      rcases Nat.lt_or_ge v k0 with z | z
      · have := h0.2.2 v z
        rw [v2] at this; cases this
      · exact z
    have hg := gS_le (P := bi (sl k)) (k0 := k0) N
    refine ⟨(nI (i + 2), nI (gS (bi (sl k)) k0 (v + 1))), ?_, v + 1, by omega, by rw [fb_ct_succ, v3, if_pos v2], rfl⟩
    show bX8_findCover_7 (nI (cn sl k)) c0 (lsF (bi (sl k)) fi 41) (nI (i + 1)) (nI (gS (bi (sl k)) k0 N)) = _
    unfold bX8_findCover_7
    simp only [lt_]
    rw [brF (show ¬ nI (cn sl k) ≤ nI (i + 1) from nI_ge (by omega) (by omega)), nI_clamp (by omega), gd_eq ⟨nI_pos (by omega), by omega⟩, gd_eq (by decide), show (0 : Int32).toNatClampNeg = 0 from by decide, hf0]
    have ev := lsF_at (P := bi (sl k)) (to := fi) v1 v2
    rw [v3] at ev
    rw [ev, pk_sub hv0, bd_eq (gd8 (by omega) (by omega)), nI_1]
    show _ = some (Sum.inl (nI (i + 2), nI (if bi (sl k) v then Nat.gcd (gS (bi (sl k)) k0 v) (v - k0) else gS (bi (sl k)) k0 v)))
    rw [if_pos v2, gS_same (P := bi (sl k)) (k0 := k0) (i := v) (j := N) (by omega)]
  · rintro q ⟨N, N1, N2, rfl⟩
    refine ⟨_, ?_, rfl⟩
    have eN : gS (bi (sl k)) k0 N = gS (bi (sl k)) k0 41 := gS_same (by unfold cn at hpos N2; omega)
    have hg := gS_le (P := bi (sl k)) (k0 := k0) 41
    show bX8_findCover_7 (nI (cn sl k)) c0 (lsF (bi (sl k)) fi 41) (nI (cn sl k - 1 + 1)) (nI (gS (bi (sl k)) k0 N)) = _
    rw [eN, show cn sl k - 1 + 1 = cn sl k by omega]
    unfold bX8_findCover_7 bX8_findCover_76 cS
    simp only [lt_]
    rw [brT (show nI (cn sl k) ≤ nI (cn sl k) from nI_le (Nat.le_refl _) (by omega))]
    by_cases hz : gS (bi (sl k)) k0 41 = 0
    · have e := gS_zero hz k1 h141 h1.2.1
      rw [hz, brT (show nI 0 = (0 : Int32) from rfl), brT (show nI 0 = (0 : Int32) from rfl), if_pos rfl, show k1 - k0 = 0 by omega]
      rfl
    · have hne : ¬ nI (gS (bi (sl k)) k0 41) = 0 := nI_ne0 (by omega) (by omega)
      rw [brF hne, if_neg hz, show nI (cn sl k) - 1 = nI (cn sl k - 1) from pk_sub hpos, nI_clamp (by omega), gd_eq ⟨nI_pos (by omega), by omega⟩, gd_eq (by decide), gd_eq hne, show (0 : Int32).toNatClampNeg = 0 from by decide, hf0, hf1, pk_sub hle, pk_div (by omega) (by omega) (by omega), nI_1, brF hne]
      rfl
theorem core_cover {sl : Nat → Int64} {nw : Nat → Int32} (h : RS sl nw) (q w : Int32) (s0 c0 : Int32) (fi : Nat → Int32) : ∃ r s2 c2 fi2, fX7_cover q w sl = some r ∧ fX8_cover q w s0 c0 nw fi = some (r, s2, c2, fi2) := by
  have k0 : (0 : Int64) = (0 : Int32).toInt64 := by decide
  have k2 : (2 : Int64) = (2 : Int32).toInt64 := by decide
  rcases slot_cases q with ⟨j, hj, rfl⟩ | hq
  · by_cases h0 : w < 0
    · refine ⟨-1, s0, c0, fi, ?_, ?_⟩
      · unfold fX7_cover
        rw [bd_eq (isSlot_in j hj), brF (by decide), brT h0]
      · unfold fX8_cover
        rw [bd_eq (isSlot8_in j hj), brF (by decide), bd_eq (in8_no (Or.inl (by rw [k0]; exact wide_lt h0))), brT rfl]
    · by_cases h2 : w ≤ 2
      · have e8 : ∀ X, X = bd (fX8_lists (nI j) 41 nw fi) (fun u5 => br (u5.1 = 0) (some (((-2 : Int32), s0, c0, u5.2))) (bd (fX8_findCover u5.1 s0 c0 u5.2) (fun u7 => br (w = 0) (gd (¬ (0 : Int32) < 0 ∧ (0 : Int32).toNatClampNeg < 41) (some ((u5.2 (0 : Int32).toNatClampNeg, u7.1, u7.2, u5.2)))) (br (w = (1 : Int32)) (some ((u7.1, u7.1, u7.2, u5.2))) (some ((u7.2, u7.1, u7.2, u5.2))))))) → fX8_cover (nI j) w s0 c0 nw fi = X := by
          intro X hX
          unfold fX8_cover
          rw [bd_eq (isSlot8_in j hj), brF (by decide), bd_eq (in8_yes (by rw [k0]; exact wide_nlt h0) (by rw [k2]; exact wide_nlt (Int32.not_lt.mpr h2))), brF (by decide), hX]
        rw [e8 _ rfl, bd_eq (lists8_eq h hj fi)]
        have hcn := cn_le sl j
        by_cases hz : cn sl j = 0
        · refine ⟨-2, s0, c0, lsF (bi (sl j)) fi 41, ?_, ?_⟩
          · unfold fX7_cover
            rw [bd_eq (isSlot_in j hj), brF (by decide), brF h0, brT h2, cl4 hj, g4 hj, brT ((cz_iff h hj).mpr hz)]
          · rw [brT (by rw [hz]; rfl)]
        · obtain ⟨a, b, a41, b41, ha, hb⟩ := h.ends hj hz
          have hf0 : lsF (bi (sl j)) fi 41 0 = nI a := by
            have e := lsF_at (P := bi (sl j)) (to := fi) a41 ha.2.1
            rw [ct_first ha.2.2] at e; exact e
          have e7 : fX7_cover (nI j) w sl = br (w = 0) (some (nI a)) (br (w = 1) (some (nI (cS (sl j) a))) (some (nI ((b - a) / cS (sl j) a + 1)))) := by
            unfold fX7_cover
            rw [bd_eq (isSlot_in j hj), brF (by decide), brF h0, brT h2, cl4 hj, g4 hj, brF (fun z => hz ((cz_iff h hj).mp z)), g4 hj, g4 hj, g4 hj, bd_eq (leastOf_eq ha), bd_eq (coverStep_eq ha a41), bd_eq (coverLength_eq ha a41 hb b41)]
          rw [e7, brF (nI_ne0 (by omega) (by omega)), bd_eq (findCover_eq h hj ha a41 hb b41 fi s0 c0), gd_eq (by decide), show (0 : Int32).toNatClampNeg = 0 from by decide]
          simp only [hf0]
          by_cases w0 : w = 0
          · rw [brT w0, brT w0]; exact ⟨_, _, _, _, rfl, rfl⟩
          · rw [brF w0, brF w0]
            by_cases w1 : w = 1
            · rw [brT w1, brT w1]; exact ⟨_, _, _, _, rfl, rfl⟩
            · rw [brF w1, brF w1]; exact ⟨_, _, _, _, rfl, rfl⟩
      · refine ⟨-1, s0, c0, fi, ?_, ?_⟩
        · unfold fX7_cover
          rw [bd_eq (isSlot_in j hj), brF (by decide), brF h0, brF h2]
        · unfold fX8_cover
          rw [bd_eq (isSlot8_in j hj), brF (by decide), bd_eq (in8_no (Or.inr (by rw [k2]; exact wide_lt (Int32.not_le.mp h2)))), brT rfl]
  · refine ⟨-1, s0, c0, fi, ?_, ?_⟩
    · unfold fX7_cover
      rw [bd_eq (isSlot_out hq), brT rfl]
    · unfold fX8_cover
      rw [bd_eq (isSlot8_out hq), brT rfl]
