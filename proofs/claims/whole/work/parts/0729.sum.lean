theorem adds_sum {sl : Nat → Int64} {nw : Nat → Int32} (h : RS sl nw) {a b : Nat} (ha : a < 4) (hb : b < 4) (fi se sm : Nat → Int32) :
    ∃ sm2, fX8_adds (nI a) (nI b) 1 nw fi se sm = some (nI (fb_ct (sS (bi (sl a)) (bi (sl b)) 41) 241), lsF (bi (sl a)) fi 41, lsF (bi (sl b)) se 41, sm2) ∧ ∀ v, v < 241 → is01 (sm2 v) (sS (bi (sl a)) (bi (sl b)) 41 v = true) := by
  unfold fX8_adds
  rw [bd_eq (lists8_eq h ha fi), bd_eq (lists8_eq h hb se)]
  refine adds_eq (A := bi (sl a)) (B := bi (sl b)) (g := fun a b => a + b) (fun c hc hA => lsF_at hc hA) (fun c hc hB => lsF_at hc hB) ?_ ?_ sm
  · intro c e hc he
    refine ⟨by omega, fun x4 x5 x6 x7 sm2 h1 h2 h3 h4 h5 => ?_⟩
    unfold bX8_adds_60
    rw [brF h5, brF (by decide), gd_eq h3, gd_eq h4, h1, h2, nI_add]
  · intro v hv
    rw [sS_iff]
    constructor
    · rintro ⟨c, c1, c2, c3, c4⟩
      refine ⟨c, v - c, c1, c2, ?_, c4, by omega⟩
      rcases Nat.lt_or_ge (v - c) 41 with z | z
      · exact z
      · rw [(h b hb).2 _ z] at c4; cases c4
    · rintro ⟨c, e, c1, c2, c3, c4, c5⟩
      exact ⟨c, c1, c2, by omega, by rw [c5, Nat.add_sub_cancel_left]; exact c4⟩
theorem i32_sub_add (x y z : Int32) : x - y + z = x + z - y := by
  rw [Int32.sub_eq_add_neg, Int32.sub_eq_add_neg, Int32.add_assoc, Int32.add_comm (-y) z, ← Int32.add_assoc]
theorem adds_diff {sl : Nat → Int64} {nw : Nat → Int32} (h : RS sl nw) {a b : Nat} (ha : a < 4) (hb : b < 4) {y : Int64} (hy : ∀ i, i ≤ 40 → bi y i = bi (sl b) (40 - i)) (hy2 : ∀ i, 41 ≤ i → bi y i = false) (fi se sm : Nat → Int32) :
    ∃ sm2, fX8_adds (nI a) (nI b) (-1) nw fi se sm = some (nI (fb_ct (sS (bi (sl a)) (bi y) 41) 241), lsF (bi (sl a)) fi 41, lsF (bi (sl b)) se 41, sm2) ∧ ∀ v, v < 241 → is01 (sm2 v) (sS (bi (sl a)) (bi y) 41 v = true) := by
  unfold fX8_adds
  rw [bd_eq (lists8_eq h ha fi), bd_eq (lists8_eq h hb se)]
  refine adds_eq (A := bi (sl a)) (B := bi (sl b)) (g := fun a b => a + 40 - b) (fun c hc hA => lsF_at hc hA) (fun c hc hB => lsF_at hc hB) ?_ ?_ sm
  · intro c e hc he
    refine ⟨by omega, fun x4 x5 x6 x7 sm2 h1 h2 h3 h4 h5 => ?_⟩
    unfold bX8_adds_60
    rw [brF h5, brT (by decide), gd_eq h3, gd_eq h4, h1, h2, i32_sub_add, show (40 : Int32) = nI 40 from rfl, nI_add, pk_sub (by omega)]
  · intro v hv
    rw [sS_iff]
    constructor
    · rintro ⟨c, c1, c2, c3, c4⟩
      have hle : v - c ≤ 40 := by
        rcases Nat.lt_or_ge 40 (v - c) with z | z
        · rw [hy2 _ z] at c4; cases c4
        · exact z
      rw [hy _ hle] at c4
      exact ⟨c, 40 - (v - c), c1, c2, by omega, c4, by omega⟩
    · rintro ⟨c, e, c1, c2, c3, c4, c5⟩
      have c5 : v = c + 40 - e := c5
      refine ⟨c, c1, c2, by omega, ?_⟩
      rw [hy _ (by omega), show 40 - (v - c) = e by omega]
      exact c4
theorem told_same {A B : Nat → Bool} (hB : ∀ v, 41 ≤ v → B v = false) {w2 : Nat → Int64} {sm2 : Nat → Int32} (hw : ∀ v, v < 256 → wb w2 v = sS A B 41 v) (hm : ∀ v, v < 241 → is01 (sm2 v) (sS A B 41 v = true)) {q : Int32} (h1 : (-1 : Int32) ≤ q) :
    ∃ r, (q = -1 → fX6_size w2 = some r) ∧ (¬ q = -1 → fX6_numberAtPlace q w2 = some r) ∧ fX8_told (nI (fb_ct (sS A B 41) 241)) q sm2 = some r := by
  have hc := ct_S hB hw
  have hle := fb_ct_le (sS A B 41) 241
  rcases m1_cases h1 with rfl | h0
  · refine ⟨nI (fb_ct (sS A B 41) 241), fun _ => ?_, fun z => absurd rfl z, ?_⟩
    · rw [size6_eq, hc]
    · unfold fX8_told bX8_told_9
      rw [brT (by decide), brF (by decide)]
  · have hne : ¬ q = -1 := fun z => h0 (by rw [z]; decide)
    obtain ⟨n, hn, rfl⟩ := nI_of h0
    by_cases hlt : n < fb_ct (sS A B 41) 241
    · obtain ⟨v, v1, v2, v3⟩ := fb_ct_kth hlt
      refine ⟨nI v, fun z => absurd z hne, fun _ => ?_, told_eq hm v1 v2 v3⟩
      refine place_eq (by omega) (by rw [hw v (by omega)]; exact v2) ?_
      rw [← v3]
      exact fb_ct_cong (fun k hk => hw k (by omega))
    · refine ⟨-4, fun z => absurd z hne, fun _ => place_none hn (by omega), ?_⟩
      unfold fX8_told bX8_told_9
      rw [brF h0, brF (nI_nlt (by omega) hn), brT (Int32.not_lt.mp h0)]
theorem core_sum {sl : Nat → Int64} {nw : Nat → Int32} (h : RS sl nw) (q w z : Int32) (sw_ aw : Nat → Int64) (fi se sm : Nat → Int32) : ∃ r sw2 aw2 fi2 se2 sm2, fX7_sum q w z sl sw_ aw = some (r, sw2, aw2) ∧ fX8_sum q w z nw fi se sm = some (r, fi2, se2, sm2) := by
  rcases slot_cases q with ⟨a, ha, rfl⟩ | hq
  · rcases slot_cases w with ⟨b, hb, rfl⟩ | hw
    · by_cases h1 : (-1 : Int32) ≤ z
      · obtain ⟨w2, o2, f1, f2⟩ := findSums_eq (sl a) (sl b) (h b hb).2 sw_ aw
        obtain ⟨sm2, g1, g2⟩ := adds_sum h ha hb fi se sm
        obtain ⟨r, r1, r2, r3⟩ := told_same (h b hb).2 f2 g2 h1
        refine ⟨r, w2, o2, lsF (bi (sl a)) fi 41, lsF (bi (sl b)) se 41, sm2, ?_, ?_⟩
        · unfold fX7_sum
          rw [bd_eq (isSlot_in a ha), brF (by decide), bd_eq (isSlot_in b hb), brF (by decide), brT h1, cl4 ha, cl4 hb, g4 ha, g4 hb, bd_eq f1]
          by_cases e : z = -1
          · rw [brT e, bd_eq (r1 e)]
          · rw [brF e, bd_eq (r2 e)]
        · unfold fX8_sum
          rw [bd_eq (isSlot8_in a ha), brF (by decide), bd_eq (isSlot8_in b hb), brF (by decide), brF (Int32.not_lt.mpr h1), bd_eq g1, bd_eq r3]
      · refine ⟨-1, sw_, aw, fi, se, sm, ?_, ?_⟩
        · unfold fX7_sum
          rw [bd_eq (isSlot_in a ha), brF (by decide), bd_eq (isSlot_in b hb), brF (by decide), brF h1]
        · unfold fX8_sum
          rw [bd_eq (isSlot8_in a ha), brF (by decide), bd_eq (isSlot8_in b hb), brF (by decide), brT (Int32.not_le.mp h1)]
          rfl
    · refine ⟨-1, sw_, aw, fi, se, sm, ?_, ?_⟩
      · unfold fX7_sum
        rw [bd_eq (isSlot_in a ha), brF (by decide), bd_eq (isSlot_out hw), brT rfl]
      · unfold fX8_sum
        rw [bd_eq (isSlot8_in a ha), brF (by decide), bd_eq (isSlot8_out hw), brT rfl]
        rfl
  · refine ⟨-1, sw_, aw, fi, se, sm, ?_, ?_⟩
    · unfold fX7_sum
      rw [bd_eq (isSlot_out hq), brT rfl]
    · unfold fX8_sum
      rw [bd_eq (isSlot8_out hq), brT rfl]
      rfl
theorem core_difference {sl : Nat → Int64} {nw : Nat → Int32} (h : RS sl nw) (q w z : Int32) (sw_ aw : Nat → Int64) (fi se sm : Nat → Int32) : ∃ r sw2 aw2 fi2 se2 sm2, fX7_difference q w z sl sw_ aw = some (r, sw2, aw2) ∧ fX8_difference q w z nw fi se sm = some (r, fi2, se2, sm2) := by
  rcases slot_cases q with ⟨a, ha, rfl⟩ | hq
  · rcases slot_cases w with ⟨b, hb, rfl⟩ | hw
    · by_cases h1 : (-1 : Int32) ≤ z
      · obtain ⟨y, y1, y2, y3⟩ := mirrored_eq (h b hb).2
        obtain ⟨w2, o2, f1, f2⟩ := findSums_eq (sl a) y y3 sw_ aw
        obtain ⟨sm2, g1, g2⟩ := adds_diff h ha hb y2 y3 fi se sm
        obtain ⟨r, r1, r2, r3⟩ := told_same y3 f2 g2 h1
        refine ⟨r, w2, o2, lsF (bi (sl a)) fi 41, lsF (bi (sl b)) se 41, sm2, ?_, ?_⟩
        · unfold fX7_difference
          rw [bd_eq (isSlot_in a ha), brF (by decide), bd_eq (isSlot_in b hb), brF (by decide), brT h1, cl4 ha, cl4 hb, g4 ha, g4 hb, bd_eq y1, bd_eq f1]
          by_cases e : z = -1
          · rw [brT e, bd_eq (r1 e)]
          · rw [brF e, bd_eq (r2 e)]
        · unfold fX8_difference
          rw [bd_eq (isSlot8_in a ha), brF (by decide), bd_eq (isSlot8_in b hb), brF (by decide), brF (Int32.not_lt.mpr h1), bd_eq g1, bd_eq r3]
      · refine ⟨-1, sw_, aw, fi, se, sm, ?_, ?_⟩
        · unfold fX7_difference
          rw [bd_eq (isSlot_in a ha), brF (by decide), bd_eq (isSlot_in b hb), brF (by decide), brF h1]
        · unfold fX8_difference
          rw [bd_eq (isSlot8_in a ha), brF (by decide), bd_eq (isSlot8_in b hb), brF (by decide), brT (Int32.not_le.mp h1)]
          rfl
    · refine ⟨-1, sw_, aw, fi, se, sm, ?_, ?_⟩
      · unfold fX7_difference
        rw [bd_eq (isSlot_in a ha), brF (by decide), bd_eq (isSlot_out hw), brT rfl]
      · unfold fX8_difference
        rw [bd_eq (isSlot8_in a ha), brF (by decide), bd_eq (isSlot8_out hw), brT rfl]
        rfl
  · refine ⟨-1, sw_, aw, fi, se, sm, ?_, ?_⟩
    · unfold fX7_difference
      rw [bd_eq (isSlot_out hq), brT rfl]
    · unfold fX8_difference
      rw [bd_eq (isSlot8_out hq), brT rfl]
      rfl
