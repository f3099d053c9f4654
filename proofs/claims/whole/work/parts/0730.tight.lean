theorem fewest_eq {sl : Nat → Int64} {nw : Nat → Int32} (h : RS sl nw) {a b : Nat} (ha : a < 4) (hb : b < 4) : fX7_fewestSums (sl a) (sl b) = some (nI (cn sl a + cn sl b) - 1) := by
  unfold fX7_fewestSums
  rw [bd_eq (h.bc ha), bd_eq (h.bc hb), nI_add]
theorem floor8_eq {sl : Nat → Int64} {nw : Nat → Int32} (h : RS sl nw) {a b : Nat} (ha : a < 4) (hb : b < 4) : fX8_floor (nI a) (nI b) nw = if cn sl a = 0 ∨ cn sl b = 0 then some (-2) else some (nI (cn sl a + cn sl b) - 1) := by
  unfold fX8_floor bX8_floor_38
  rw [bd_eq (isSlot8_in a ha), bd_eq (isSlot8_in b hb), bd_eq (manyOf_eq h ha), bd_eq (manyOf_eq h hb)]
  have c1 := cn_le sl a
  have c2 := cn_le sl b
  rw [brF (by decide), brF (by decide)]
  by_cases h1 : cn sl a = 0
  · rw [brT (by rw [h1]; rfl), if_pos (Or.inl h1)]
  · rw [brF (nI_ne0 (by omega) (by omega))]
    by_cases h2 : cn sl b = 0
    · rw [brT (by rw [h2]; rfl), if_pos (Or.inr h2)]
    · rw [brF (nI_ne0 (by omega) (by omega)), if_neg (by omega), nI_add]
theorem core_tight {sl : Nat → Int64} {nw : Nat → Int32} (h : RS sl nw) (q w : Int32) (sw_ aw : Nat → Int64) (fi se sm : Nat → Int32) : ∃ r sw2 aw2 fi2 se2 sm2, fX7_tight q w sl sw_ aw = some (r, sw2, aw2) ∧ fX8_tight q w nw fi se sm = some (r, fi2, se2, sm2) := by
  rcases slot_cases q with ⟨a, ha, rfl⟩ | hq
  · rcases slot_cases w with ⟨b, hb, rfl⟩ | hw
    · have c1 := cn_le sl a
      have c2 := cn_le sl b
      have e8 := floor8_eq h ha hb
      by_cases hz1 : cn sl a = 0
      · rw [if_pos (Or.inl hz1)] at e8
        refine ⟨-2, sw_, aw, fi, se, sm, ?_, ?_⟩
        · unfold fX7_tight
          rw [bd_eq (isSlot_in a ha), brF (by decide), bd_eq (isSlot_in b hb), brF (by decide), cl4 ha, cl4 hb, g4 ha, brT ((cz_iff h ha).mpr hz1)]
        · unfold fX8_tight
          rw [bd_eq e8, brF (by decide)]
      · by_cases hz2 : cn sl b = 0
        · rw [if_pos (Or.inr hz2)] at e8
          refine ⟨-2, sw_, aw, fi, se, sm, ?_, ?_⟩
          · unfold fX7_tight
            rw [bd_eq (isSlot_in a ha), brF (by decide), bd_eq (isSlot_in b hb), brF (by decide), cl4 ha, cl4 hb, g4 ha, brF (fun z => hz1 ((cz_iff h ha).mp z)), g4 hb, brT ((cz_iff h hb).mpr hz2)]
          · unfold fX8_tight
            rw [bd_eq e8, brF (by decide)]
        · rw [if_neg (by omega)] at e8
          have ef : nI (cn sl a + cn sl b) - 1 = nI (cn sl a + cn sl b - 1) := pk_sub (b := 1) (by omega)
          have e7 : ∀ X, X = br (nI (cn sl a) < (2 : Int32)) (some ((0 : Int32), sw_, aw)) (br ((2 : Int32) ≤ nI (cn sl b)) (bd (fX7_findSums (sl a) (sl b) sw_ aw) (fun u17 => bd (fX6_size u17.1) (fun u18 => br (u18 = nI (cn sl a + cn sl b - 1)) (some (((1 : Int32), u17.1, u17.2))) (some (((0 : Int32), u17.1, u17.2)))))) (some ((0 : Int32), sw_, aw))) → fX7_tight (nI a) (nI b) sl sw_ aw = X := by
            intro X hX
            unfold fX7_tight
            rw [bd_eq (isSlot_in a ha), brF (by decide), bd_eq (isSlot_in b hb), brF (by decide)]
            simp only [cl4 ha, cl4 hb, g4 ha, g4 hb, bd_eq (fewest_eq h ha hb), ef]
            rw [brF (fun z => hz1 ((cz_iff h ha).mp z)), brF (fun z => hz2 ((cz_iff h hb).mp z)), bd_eq (h.bc ha), bd_eq (h.bc hb), hX]
          have f8 : ∀ X, X = br (nI (cn sl a) ≤ (1 : Int32)) (some ((0 : Int32), fi, se, sm)) (br (nI (cn sl b) ≤ (1 : Int32)) (some ((0 : Int32), fi, se, sm)) (bd (fX8_adds (nI a) (nI b) (1 : Int32) nw fi se sm) (fun u7 => br (u7.1 = nI (cn sl a + cn sl b - 1)) (some (((1 : Int32), u7.2.1, u7.2.2.1, u7.2.2.2))) (some ((0 : Int32), u7.2.1, u7.2.2.1, u7.2.2.2))))) → fX8_tight (nI a) (nI b) nw fi se sm = X := by
            intro X hX
            unfold fX8_tight bX8_tight_46
            rw [bd_eq e8, ef, brT (show (0 : Int32) ≤ nI (cn sl a + cn sl b - 1) from nI_pos' (by omega)), bd_eq (manyOf_eq h ha), bd_eq (manyOf_eq h hb), hX]
          rw [e7 _ rfl, f8 _ rfl]
          by_cases h1 : cn sl a < 2
          · refine ⟨0, sw_, aw, fi, se, sm, ?_, ?_⟩
            · rw [brT (show nI (cn sl a) < (2 : Int32) from nI_lt (b := 2) h1 (by omega))]
            · rw [brT (show nI (cn sl a) ≤ (1 : Int32) from nI_le (b := 1) (by omega) (by omega))]
          · rw [brF (show ¬ nI (cn sl a) < (2 : Int32) from nI_nlt (b := 2) (by omega) (by omega)), brF (show ¬ nI (cn sl a) ≤ (1 : Int32) from nI_ge (a := 1) (by omega) (by omega))]
            by_cases h2 : cn sl b < 2
            · refine ⟨0, sw_, aw, fi, se, sm, ?_, ?_⟩
              · rw [brF (show ¬ (2 : Int32) ≤ nI (cn sl b) from nI_ge (b := 2) h2 (by omega))]
              · rw [brT (show nI (cn sl b) ≤ (1 : Int32) from nI_le (b := 1) (by omega) (by omega))]
            · obtain ⟨w2, o2, f1, f2⟩ := findSums_eq (sl a) (sl b) (h b hb).2 sw_ aw
              obtain ⟨sm2, g1, g2⟩ := adds_sum h ha hb fi se sm
              have hs : fX6_size w2 = some (nI (fb_ct (sS (bi (sl a)) (bi (sl b)) 41) 241)) := by rw [size6_eq, ct_S (h b hb).2 f2]
              rw [brT (show (2 : Int32) ≤ nI (cn sl b) from nI_le (a := 2) (by omega) (by omega)), brF (show ¬ nI (cn sl b) ≤ (1 : Int32) from nI_ge (a := 1) (by omega) (by omega)), bd_eq f1, bd_eq g1, bd_eq hs]
              by_cases e : nI (fb_ct (sS (bi (sl a)) (bi (sl b)) 41) 241) = nI (cn sl a + cn sl b - 1)
              · rw [brT e, brT e]; exact ⟨_, _, _, _, _, _, rfl, rfl⟩
              · rw [brF e, brF e]; exact ⟨_, _, _, _, _, _, rfl, rfl⟩
    · refine ⟨-1, sw_, aw, fi, se, sm, ?_, ?_⟩
      · unfold fX7_tight
        rw [bd_eq (isSlot_in a ha), brF (by decide), bd_eq (isSlot_out hw), brT rfl]
      · unfold fX8_tight fX8_floor
        rw [bd_eq (isSlot8_in a ha), brF (by decide), bd_eq (isSlot8_out hw), brT rfl]
        rfl
  · refine ⟨-1, sw_, aw, fi, se, sm, ?_, ?_⟩
    · unfold fX7_tight
      rw [bd_eq (isSlot_out hq), brT rfl]
    · unfold fX8_tight fX8_floor
      rw [bd_eq (isSlot8_out hq), brT rfl]
      rfl
theorem core_room {sl : Nat → Int64} {nw : Nat → Int32} (h : RS sl nw) (q : Int32) (sw_ aw : Nat → Int64) (s0 c0 : Int32) (fi se sm : Nat → Int32) : ∃ r sw2 aw2 s2 c2 fi2 se2 sm2, fX7_room q sl sw_ aw = some (r, sw2, aw2) ∧ fX8_room q s0 c0 nw fi se sm = some (r, s2, c2, fi2, se2, sm2) := by
  rcases slot_cases q with ⟨a, ha, rfl⟩ | hq
  · have c1 := cn_le sl a
    obtain ⟨w2, o2, f1, f2⟩ := findSums_eq (sl a) (sl a) (h a ha).2 sw_ aw
    obtain ⟨sm2, g1, g2⟩ := adds_sum h ha ha fi se sm
    have hs : fX6_size w2 = some (nI (fb_ct (sS (bi (sl a)) (bi (sl a)) 41) 241)) := by rw [size6_eq, ct_S (h a ha).2 f2]
    have hle := fb_ct_le (sS (bi (sl a)) (bi (sl a)) 41) 241
    have e7 : ∀ X, X = br (nI (cn sl a) < (3 : Int32)) (some ((-4 : Int32), w2, o2)) (bd (fX6_size w2) (fun u9 => br (u9 ≤ (((3 : Int32) * nI (cn sl a)) - (4 : Int32))) (bd (fX6_size w2) (fun u11 => bd (fX7_coverLength (sl a)) (fun u13 => some ((((u11 - nI (cn sl a)) + (1 : Int32)) - u13, w2, o2))))) (some ((-4 : Int32), w2, o2)))) → fX7_room (nI a) sl sw_ aw = X := by
      intro X hX
      unfold fX7_room
      rw [bd_eq (isSlot_in a ha), brF (by decide)]
      simp only [cl4 ha, g4 ha]
      rw [bd_eq (h.bc ha), bd_eq f1, hX]
    have f8 : ∀ X, X = br (nI (cn sl a) < (3 : Int32)) (some ((-4 : Int32), s0, c0, lsF (bi (sl a)) (lsF (bi (sl a)) fi 41) 41, lsF (bi (sl a)) se 41, sm2)) (br (nI (fb_ct (sS (bi (sl a)) (bi (sl a)) 41) 241) ≤ (((3 : Int32) * nI (cn sl a)) - (4 : Int32))) (bd (fX8_findCover (nI (cn sl a)) s0 c0 (lsF (bi (sl a)) (lsF (bi (sl a)) fi 41) 41)) (fun u7 => some ((((nI (fb_ct (sS (bi (sl a)) (bi (sl a)) 41) 241) - nI (cn sl a)) + (1 : Int32)) - u7.2, u7.1, u7.2, lsF (bi (sl a)) (lsF (bi (sl a)) fi 41) 41, lsF (bi (sl a)) se 41, sm2)))) (some ((-4 : Int32), s0, c0, lsF (bi (sl a)) (lsF (bi (sl a)) fi 41) 41, lsF (bi (sl a)) se 41, sm2))) → fX8_room (nI a) s0 c0 nw fi se sm = X := by
      intro X hX
      unfold fX8_room
      rw [bd_eq (isSlot8_in a ha), brF (by decide), bd_eq g1, bd_eq (lists8_eq h ha _), hX]
    rw [e7 _ rfl, f8 _ rfl, bd_eq hs, bd_eq hs]
    by_cases h3 : nI (cn sl a) < (3 : Int32)
    · rw [brT h3, brT h3]; exact ⟨_, _, _, _, _, _, _, _, rfl, rfl⟩
    · rw [brF h3, brF h3]
      by_cases h4 : nI (fb_ct (sS (bi (sl a)) (bi (sl a)) 41) 241) ≤ (((3 : Int32) * nI (cn sl a)) - (4 : Int32))
      · rw [brT h4, brT h4]
        have hz : cn sl a ≠ 0 := by
          intro z
          rw [z] at h3
          exact h3 (by decide)
        obtain ⟨k0, k1, k041, k141, hk0, hk1⟩ := h.ends ha hz
        rw [bd_eq (coverLength_eq hk0 k041 hk1 k141), bd_eq (findCover_eq h ha hk0 k041 hk1 k141 _ s0 c0)]
        exact ⟨_, _, _, _, _, _, _, _, rfl, rfl⟩
      · rw [brF h4, brF h4]; exact ⟨_, _, _, _, _, _, _, _, rfl, rfl⟩
  · refine ⟨-1, sw_, aw, s0, c0, fi, se, sm, ?_, ?_⟩
    · unfold fX7_room
      rw [bd_eq (isSlot_out hq), brT rfl]
    · unfold fX8_room
      rw [bd_eq (isSlot8_out hq), brT rfl]
