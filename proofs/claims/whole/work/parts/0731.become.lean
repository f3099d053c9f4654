theorem is01.eq {x : Int32} {b : Bool} (h : is01 x (b = true)) : x = if b then 1 else 0 := by
  rcases h with ⟨rfl, h2⟩ | ⟨rfl, h2⟩
  · rw [if_pos h2]
  · rw [if_neg h2]
theorem is01.z {x : Int32} {C : Prop} (h : is01 x C) : x = 0 ∨ x = 1 := by
  rcases h with ⟨rfl, _⟩ | ⟨rfl, _⟩
  · exact Or.inr rfl
  · exact Or.inl rfl
theorem RS.all {sl : Nat → Int64} {nw : Nat → Int32} (h : RS sl nw) {k : Nat} (hk : k < 4) {x : Int64} (hx : ∀ v, 41 ≤ v → bi x v = false) {sm : Nat → Int32} (hsm : ∀ v, v < 41 → is01 (sm v) (bi x v = true)) : RS (vp_updL sl k x) (fb_put nw sm (41 * k) 41) := by
  intro j hj
  by_cases e : j = k
  · subst e
    rw [pk_uLs]
    refine ⟨fun v hv => ?_, hx⟩
    rw [fb_put_in (by omega) (by omega), Nat.add_sub_cancel_left]
    exact (hsm v hv).eq
  · rw [pk_uLn e]
    refine ⟨fun v hv => ?_, (h j hj).2⟩
    rw [fb_put_out (by omega)]
    exact (h j hj).1 v hv
theorem becomes8 {sl : Nat → Int64} {nw ch : Nat → Int32} {bf : Nat → Int64} {sz um : Int32} {mb : Nat → Int32} (hS : RS sl nw) (hH : RH sl ch bf sz mb um) {k : Nat} (hk : k < 4) {x : Int64} (hx : ∀ v, 41 ≤ v → bi x v = false) {sm : Nat → Int32} (hsm : ∀ v, v < 41 → is01 (sm v) (bi x v = true)) :
    ∃ r sl2 sz2 ch2 bf2 um2 nw2 mb2, fX7_change (nI k) x sl sz ch bf = some (r, sl2, sz2, ch2, bf2) ∧ fX8_becomes (nI k) um nw mb sm = some (r, um2, nw2, mb2) ∧ RS sl2 nw2 ∧ RH sl2 ch2 bf2 sz2 mb2 um2 := by
  obtain ⟨sz2, ch2, bf2, um2, mb2, h1, h2, h3⟩ := change_eq hS hH hk hx
  have hS2 := hS.all hk hx hsm
  refine ⟨_, _, sz2, ch2, bf2, um2, fb_put nw sm (41 * k) 41, mb2, h1, ?_, hS2, h3⟩
  unfold fX8_becomes
  rw [bd_eq h2]
  have e0 : ((0 : Int32), nw) = (fun i => (nI i, fb_put nw sm (41 * k) i)) 0 := by
    show ((0 : Int32), nw) = (nI 0, fb_put nw sm (41 * k) 0)
    rw [fb_put_0]; rfl
  rw [e0]
  refine run_all (step := sX8_becomes_6 (nI k) um2 mb2 sm) 41 (fun i => (nI i, fb_put nw sm (41 * k) i)) _ ?_ ?_
  · intro i hi
    show bX8_becomes_6 (nI k) um2 mb2 sm (nI i) (fb_put nw sm (41 * k) i) = _
    unfold bX8_becomes_6
    simp only [lt_]
    rw [show (41 : Int32) = nI 41 from rfl, brF (nI_ge hi (by omega)), nI_clamp (by omega), gd_eq ⟨nI_pos (by omega), by omega⟩, pk_mul, nI_add, nI_clamp (by omega), gd_eq ⟨nI_pos (by omega), by omega⟩, nar_z (hsm i hi).z, show nI i + 1 = nI (i + 1) from nI_1 i, fb_put_succ]
  · show bX8_becomes_6 (nI k) um2 mb2 sm (nI 41) (fb_put nw sm (41 * k) 41) = _
    unfold bX8_becomes_6
    rw [brT (by decide), bd_eq (manyOf_eq hS2 hk)]

theorem run_go {L T : Type} {step : L → Option (L ⊕ T)} (N : Nat) (I : Nat → L → Prop) (hs : ∀ i q, i < N → I i q → ∃ q2, step q = some (.inl q2) ∧ I (i + 1) q2) : ∀ k i q, i + k = N → I i q → ∃ q2, run step q = run step q2 ∧ I N q2 := by
  intro k
  induction k with
  | zero =>
    intro i q h hI
    rw [show i = N by omega] at hI
    exact ⟨q, rfl, hI⟩
  | succ k ih =>
    intro i q h hI
    obtain ⟨q2, h1, h2⟩ := hs i q (by omega) hI
    rw [run_inl h1]
    exact ih (i + 1) q2 (by omega) h2
theorem core_becomeSums {sl : Nat → Int64} {nw ch : Nat → Int32} {bf : Nat → Int64} {sz um : Int32} {mb : Nat → Int32} (hS : RS sl nw) (hH : RH sl ch bf sz mb um) (q w z : Int32) (sw_ aw : Nat → Int64) (fi se sm : Nat → Int32) :
    ∃ r sl2 sz2 ch2 bf2 sw2 aw2 um2 nw2 mb2 fi2 se2 sm2, fX7_becomeSums q w z sl sz ch bf sw_ aw = some (r, sl2, sz2, ch2, bf2, sw2, aw2) ∧ fX8_becomeSums q w z um nw mb fi se sm = some (r, um2, nw2, mb2, fi2, se2, sm2) ∧ RS sl2 nw2 ∧ RH sl2 ch2 bf2 sz2 mb2 um2 := by
  rcases slot_cases q with ⟨k, hk, rfl⟩ | hq
  · rcases slot_cases w with ⟨a, ha, rfl⟩ | hw
    · rcases slot_cases z with ⟨b, hb, rfl⟩ | hz
      · obtain ⟨w2, o2, f1, f2⟩ := findSums_eq (sl a) (sl b) (hS b hb).2 sw_ aw
        obtain ⟨sm2, g1, g2⟩ := adds_sum hS ha hb fi se sm
        obtain ⟨g, h1, h2⟩ := greatest_eq w2
        by_cases hg : 40 < g
        · obtain ⟨v, v1, v2, v3⟩ := h2.mp hg
          rw [f2 v v2] at v3
          have v4 : v < 81 := by
            rcases Nat.lt_or_ge v 81 with y | y
            · exact y
            · rw [sS_big (hS b hb).2 y] at v3; cases v3
          refine ⟨-2, sl, sz, ch, bf, w2, o2, um, nw, mb, lsF (bi (sl a)) fi 41, lsF (bi (sl b)) se 41, sm2, ?_, ?_, hS, hH⟩
          · unfold fX7_becomeSums
            rw [bd_eq (isSlot_in k hk), brF (by decide), bd_eq (isSlot_in a ha), brF (by decide), bd_eq (isSlot_in b hb), brF (by decide), cl4 ha, cl4 hb, g4 ha, g4 hb, bd_eq f1, bd_eq h1, brF (Int32.not_le.mpr hg)]
          · unfold fX8_becomeSums
            rw [bd_eq (isSlot8_in k hk), brF (by decide), bd_eq (isSlot8_in a ha), brF (by decide), bd_eq (isSlot8_in b hb), brF (by decide), bd_eq g1]
            refine run_val ?_
            refine run_inv0 (step := sX8_becomeSums_35 (nI k) um nw mb (lsF (bi (sl a)) fi 41) (lsF (bi (sl b)) se 41) sm2) (v - 41) (fun i q => q = nI (41 + i)) _ ?_ ?_ rfl
            · rintro i q hi rfl
              show (∃ q2, bX8_becomeSums_35 (nI k) um nw mb (lsF (bi (sl a)) fi 41) (lsF (bi (sl b)) se 41) sm2 (nI (41 + i)) = _ ∧ _) ∨ (∃ t, bX8_becomeSums_35 (nI k) um nw mb (lsF (bi (sl a)) fi 41) (lsF (bi (sl b)) se 41) sm2 (nI (41 + i)) = _ ∧ _)
              unfold bX8_becomeSums_35
              rw [brF (show ¬ (241 : Int32) ≤ nI (41 + i) from nI_ge (b := 241) (by omega) (by omega)), nI_clamp (by omega), gd_eq ⟨nI_pos (by omega), by omega⟩]
              by_cases e : sm2 (41 + i) = 0
              · rw [brT e]
                exact Or.inl ⟨_, rfl, nI_1 _⟩
              · rw [brF e]
                exact Or.inr ⟨_, rfl, rfl⟩
            · rintro q rfl
              show (∃ t, bX8_becomeSums_35 (nI k) um nw mb (lsF (bi (sl a)) fi 41) (lsF (bi (sl b)) se 41) sm2 (nI (41 + (v - 41))) = _ ∧ _)
              unfold bX8_becomeSums_35
              rw [show 41 + (v - 41) = v by omega, brF (show ¬ (241 : Int32) ≤ nI v from nI_ge (b := 241) (by omega) (by omega)), nI_clamp (by omega), gd_eq ⟨nI_pos (by omega), by omega⟩, brF ((g2 v (by omega)).ne.mpr v3)]
              exact ⟨_, rfl, rfl⟩
        · have hno : ∀ v, 41 ≤ v → v < 256 → wb w2 v = false := by
            intro v v1 v2
            cases e : wb w2 v with
            | false => rfl
            | true => exact absurd (h2.mpr ⟨v, v1, v2, e⟩) hg
          have hx : ∀ v, 41 ≤ v → bi (w2 0) v = false := by
            intro v hv
            by_cases h64 : v < 64
            · have e := wb_at w2 (i := 0) h64
              rw [Nat.mul_zero, Nat.zero_add] at e
              rw [← e]; exact hno v hv (by omega)
            · exact bi_big (by omega)
          have hsm : ∀ v, v < 41 → is01 (sm2 v) (bi (w2 0) v = true) := by
            intro v hv
            have e := wb_at w2 (i := 0) (r := v) (by omega)
            rw [Nat.mul_zero, Nat.zero_add] at e
            rw [← e, f2 v (by omega)]
            exact g2 v (by omega)
          obtain ⟨r, sl2, sz2, ch2, bf2, um2, nw2, mb2, c1, c2, c3, c4⟩ := becomes8 hS hH hk hx hsm
          refine ⟨r, sl2, sz2, ch2, bf2, w2, o2, um2, nw2, mb2, lsF (bi (sl a)) fi 41, lsF (bi (sl b)) se 41, sm2, ?_, ?_, c3, c4⟩
          · unfold fX7_becomeSums fX6_lowest64
            rw [bd_eq (isSlot_in k hk), brF (by decide), bd_eq (isSlot_in a ha), brF (by decide), bd_eq (isSlot_in b hb), brF (by decide), cl4 ha, cl4 hb, g4 ha, g4 hb, bd_eq f1, bd_eq h1, brT (Int32.not_lt.mp hg), show (0 : Int32).toNatClampNeg = 0 from by decide, gd_eq (by decide)]
            show bd (fX7_change (nI k) (w2 0) sl sz ch bf) _ = _
            rw [bd_eq c1]
          · unfold fX8_becomeSums
            rw [bd_eq (isSlot8_in k hk), brF (by decide), bd_eq (isSlot8_in a ha), brF (by decide), bd_eq (isSlot8_in b hb), brF (by decide), bd_eq g1]
            refine run_all (step := sX8_becomeSums_35 (nI k) um nw mb (lsF (bi (sl a)) fi 41) (lsF (bi (sl b)) se 41) sm2) 200 (fun i => nI (41 + i)) _ ?_ ?_
            · intro i hi
              show bX8_becomeSums_35 (nI k) um nw mb (lsF (bi (sl a)) fi 41) (lsF (bi (sl b)) se 41) sm2 (nI (41 + i)) = _
              unfold bX8_becomeSums_35
              have e : sm2 (41 + i) = 0 := by
                rcases g2 (41 + i) (by omega) with ⟨_, y⟩ | ⟨y, _⟩
                · rw [← f2 _ (by omega), hno _ (by omega) (by omega)] at y; cases y
                · exact y
              rw [brF (show ¬ (241 : Int32) ≤ nI (41 + i) from nI_ge (b := 241) (by omega) (by omega)), nI_clamp (by omega), gd_eq ⟨nI_pos (by omega), by omega⟩, brT e]
              simp only [lt_]
              rw [nI_1]; rfl
            · show bX8_becomeSums_35 (nI k) um nw mb (lsF (bi (sl a)) fi 41) (lsF (bi (sl b)) se 41) sm2 (nI 241) = _
              unfold bX8_becomeSums_35
              rw [brT (by decide), bd_eq c2]
      · refine ⟨-1, sl, sz, ch, bf, sw_, aw, um, nw, mb, fi, se, sm, ?_, ?_, hS, hH⟩
        · unfold fX7_becomeSums
          rw [bd_eq (isSlot_in k hk), brF (by decide), bd_eq (isSlot_in a ha), brF (by decide), bd_eq (isSlot_out hz), brT rfl]
        · unfold fX8_becomeSums
          rw [bd_eq (isSlot8_in k hk), brF (by decide), bd_eq (isSlot8_in a ha), brF (by decide), bd_eq (isSlot8_out hz), brT rfl]
    · refine ⟨-1, sl, sz, ch, bf, sw_, aw, um, nw, mb, fi, se, sm, ?_, ?_, hS, hH⟩
      · unfold fX7_becomeSums
        rw [bd_eq (isSlot_in k hk), brF (by decide), bd_eq (isSlot_out hw), brT rfl]
      · unfold fX8_becomeSums
        rw [bd_eq (isSlot8_in k hk), brF (by decide), bd_eq (isSlot8_out hw), brT rfl]
  · refine ⟨-1, sl, sz, ch, bf, sw_, aw, um, nw, mb, fi, se, sm, ?_, ?_, hS, hH⟩
    · unfold fX7_becomeSums
      rw [bd_eq (isSlot_out hq), brT rfl]
    · unfold fX8_becomeSums
      rw [bd_eq (isSlot8_out hq), brT rfl]
