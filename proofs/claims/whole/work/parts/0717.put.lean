theorem bi_or (x y : Int64) (i : Nat) : bi (x ||| y) i = (bi x i || bi y i) := by unfold bi; rw [Int64.toBitVec_or, BitVec.getLsbD_or]
theorem bi_and (x y : Int64) (i : Nat) : bi (x &&& y) i = (bi x i && bi y i) := by unfold bi; rw [Int64.toBitVec_and, BitVec.getLsbD_and]
theorem bi_xor (x y : Int64) (i : Nat) : bi (x ^^^ y) i = (bi x i ^^ bi y i) := by unfold bi; rw [Int64.toBitVec_xor, BitVec.getLsbD_xor]
theorem bi_big {x : Int64} {i : Nat} (h : 64 ≤ i) : bi x i = false := BitVec.getLsbD_of_ge _ _ h
theorem bi_m1 {i : Nat} (h : i < 64) : bi (-1) i = true := (by decide +kernel : ∀ i, i < 64 → bi (-1) i = true) i h
theorem bi_one {u : Nat} (hu : u < 63) (i : Nat) : bi ((1 : Int64) <<< ((nI u).toInt64 &&& 63)) i = decide (i = u) := by
  have h2 : 2 ^ u < 2 ^ 63 := Nat.pow_lt_pow_right (by omega) hu
  rw [show (1 : Int64) = lN 1 from rfl, wb_shl 1 (by omega), Nat.one_mul, bi_lN (by omega), Nat.testBit_two_pow]
  by_cases h : u = i
  · subst h; simp
  · simp [h, Ne.symm h]
theorem bi_ext {x y : Int64} (h : ∀ i, i < 64 → bi x i = bi y i) : x = y := Int64.toBitVec_inj.mp (BitVec.eq_of_getLsbD_eq (fun i hi => h i hi))
/-- one number of one slot becomes what it may -/
theorem RS.one {sl : Nat → Int64} {nw : Nat → Int32} (h : RS sl nw) {j u : Nat} (hj : j < 4) (hu : u < 41) (b : Bool) {x : Int64} (hx : ∀ i, i < 64 → bi x i = if i = u then b else bi (sl j) i) : RS (vp_updL sl j x) (upd nw (41 * j + u) (if b then 1 else 0)) := by
  intro k hk
  refine ⟨fun v hv => ?_, fun v hv => ?_⟩
  · by_cases e : k = j
    · subst e
      rw [pk_uLs]
      by_cases e2 : v = u
      · subst e2
        rw [pk_us, hx v (by omega), if_pos rfl]
      · rw [pk_un (by omega), hx v (by omega), if_neg e2]
        exact (h k hk).1 v hv
    · rw [pk_uLn e, pk_un (by omega)]
      exact (h k hk).1 v hv
  · by_cases e : k = j
    · subst e
      rw [pk_uLs]
      by_cases h64 : v < 64
      · rw [hx v h64, if_neg (by omega)]; exact (h k hk).2 v hv
      · exact bi_big (by omega)
    · rw [pk_uLn e]; exact (h k hk).2 v hv
theorem change_eq {sl : Nat → Int64} {nw ch : Nat → Int32} {bf : Nat → Int64} {sz um : Int32} {mb : Nat → Int32} (hS : RS sl nw) (hH : RH sl ch bf sz mb um) {k : Nat} (hk : k < 4) {x : Int64} (hx : ∀ v, 41 ≤ v → bi x v = false) :
    ∃ sz2 ch2 bf2 um2 mb2, fX7_change (nI k) x sl sz ch bf = some (nI (cn (vp_updL sl k x) k), vp_updL sl k x, sz2, ch2, bf2) ∧ fX8_note um nw mb = some (um2, mb2) ∧ RH (vp_updL sl k x) ch2 bf2 sz2 mb2 um2 := by
  obtain ⟨sz2, ch2, bf2, um2, mb2, h1, h2, h3⟩ := rec_ok hS hH hk x
  refine ⟨sz2, ch2, bf2, um2, mb2, ?_, h2, h3⟩
  unfold fX7_change
  rw [cl4 hk, g4 hk, bd_eq h1, g4 hk]
  simp only [lt_]
  rw [bc_eq, ct41 hx]
  show some _ = some _
  unfold cn
  rw [pk_uLs]
theorem core_put {sl : Nat → Int64} {nw ch : Nat → Int32} {bf : Nat → Int64} {sz um : Int32} {mb : Nat → Int32} (hS : RS sl nw) (hH : RH sl ch bf sz mb um) (q w : Int32) :
    ∃ r sl2 sz2 ch2 bf2 um2 nw2 mb2, fX7_put q w sl sz ch bf = some (r, sl2, sz2, ch2, bf2) ∧ fX8_put q w um nw mb = some (r, um2, nw2, mb2) ∧ RS sl2 nw2 ∧ RH sl2 ch2 bf2 sz2 mb2 um2 := by
  have k0 : (0 : Int64) = (0 : Int32).toInt64 := by decide
  have k40 : (40 : Int64) = (40 : Int32).toInt64 := by decide
  rcases slot_cases q with ⟨j, hj, rfl⟩ | hq
  · rcases num_cases w with ⟨u, hu, rfl⟩ | hw
    · have i8 : fX8_in (nI u).toInt64 0 40 = some 1 := by
        refine in8_yes ?_ ?_
        · rw [k0]; exact wide_nlt (nI_pos (by omega))
        · rw [k40]; exact wide_nlt (show ¬ nI 40 < nI u from nI_nlt (by omega) (by omega))
      have hcl : (nI (41 * j + u)).toNatClampNeg = 41 * j + u := nI_clamp (by omega)
      have hix : (41 : Int32) * nI j + nI u = nI (41 * j + u) := by rw [show (41 : Int32) = nI 41 from rfl, pk_mul, nI_add]
      have e8 : fX8_tells (nI j) (nI u) 1 um nw mb = br (nw (41 * j + u) = 1) (some (-2, um, nw, mb)) (bd (fX8_note um nw mb) (fun u7 => bd (fX8_manyOf (nI j) (upd nw (41 * j + u) 1)) (fun u10 => some (u10, u7.1, upd nw (41 * j + u) 1, u7.2)))) := by
        unfold fX8_tells
        rw [bd_eq (isSlot8_in j hj), brF (by decide), bd_eq i8, brF (by decide), hix, hcl, gd_eq ⟨nI_pos (by omega), by omega⟩]
        simp only [lt_, gd_eq (show ¬ nI (41 * j + u) < 0 ∧ 41 * j + u < 164 from ⟨nI_pos (by omega), by omega⟩), show vp_nar .boolean 1 = 1 from rfl]
      have hnow := (hS j hj).1 u hu
      by_cases hb : bi (sl j) u = true
      · refine ⟨-2, sl, sz, ch, bf, um, nw, mb, ?_, ?_, hS, hH⟩
        · unfold fX7_put
          rw [bd_eq (isSlot_in j hj), brF (by decide), bd_eq (isNum_in u hu), brF (by decide), cl4 hj, g4 hj, bd_eq (has_in hu), if_pos hb, brF (by decide)]
        · unfold fX8_put
          rw [e8, brT (by rw [hnow, if_pos hb])]
          rfl
      · have hx : ∀ i, i < 64 → bi (sl j ||| ((1 : Int64) <<< ((nI u).toInt64 &&& 63))) i = if i = u then true else bi (sl j) i := by
          intro i hi
          rw [bi_or, bi_one (by omega)]
          by_cases e : i = u
          · rw [if_pos e, decide_eq_true e, Bool.or_true]
          · rw [if_neg e, decide_eq_false e, Bool.or_false]
        have hx41 : ∀ v, 41 ≤ v → bi (sl j ||| ((1 : Int64) <<< ((nI u).toInt64 &&& 63))) v = false := by
          intro v hv
          by_cases h64 : v < 64
          · rw [hx v h64, if_neg (by omega)]; exact (hS j hj).2 v hv
          · exact bi_big (by omega)
        obtain ⟨sz2, ch2, bf2, um2, mb2, h1, h2, h3⟩ := change_eq hS hH hj hx41
        have hS2 := hS.one hj hu true hx
        rw [if_pos rfl] at hS2
        refine ⟨nI (cn (vp_updL sl j (sl j ||| ((1 : Int64) <<< ((nI u).toInt64 &&& 63)))) j), vp_updL sl j (sl j ||| ((1 : Int64) <<< ((nI u).toInt64 &&& 63))), sz2, ch2, bf2, um2, upd nw (41 * j + u) 1, mb2, ?_, ?_, hS2, h3⟩
        · unfold fX7_put
          rw [bd_eq (isSlot_in j hj), brF (by decide), bd_eq (isNum_in u hu), brF (by decide), cl4 hj, g4 hj, bd_eq (has_in hu), if_neg hb, brT rfl, g4 hj, bd_eq h1]
        · unfold fX8_put
          rw [e8, brF (by rw [hnow, if_neg hb]; decide), bd_eq h2, bd_eq (manyOf_eq hS2 hj)]
          rfl
    · refine ⟨-1, sl, sz, ch, bf, um, nw, mb, ?_, ?_, hS, hH⟩
      · unfold fX7_put
        rw [bd_eq (isSlot_in j hj), brF (by decide), bd_eq (isNum_out hw), brT rfl]
      · unfold fX8_put fX8_tells
        have i8 : fX8_in w.toInt64 0 40 = some 0 := by
          refine in8_no ?_
          rcases hw with hw | hw
          · left; rw [k0]; exact wide_lt hw
          · right; rw [k40]
            refine wide_lt ?_
            rw [Int32.le_iff_toInt_le] at hw
            rw [Int32.lt_iff_toInt_lt]
            have e1 : (nI 41).toInt = 41 := by decide
            have e2 : (40 : Int32).toInt = 40 := by decide
            omega
        rw [bd_eq (isSlot8_in j hj), brF (by decide), bd_eq i8, brT rfl]
        rfl
  · refine ⟨-1, sl, sz, ch, bf, um, nw, mb, ?_, ?_, hS, hH⟩
    · unfold fX7_put
      rw [bd_eq (isSlot_out hq), brT rfl]
    · unfold fX8_put fX8_tells
      rw [bd_eq (isSlot8_out hq), brT rfl]
      rfl
theorem core_take {sl : Nat → Int64} {nw ch : Nat → Int32} {bf : Nat → Int64} {sz um : Int32} {mb : Nat → Int32} (hS : RS sl nw) (hH : RH sl ch bf sz mb um) (q w : Int32) :
    ∃ r sl2 sz2 ch2 bf2 um2 nw2 mb2, fX7_take q w sl sz ch bf = some (r, sl2, sz2, ch2, bf2) ∧ fX8_take q w um nw mb = some (r, um2, nw2, mb2) ∧ RS sl2 nw2 ∧ RH sl2 ch2 bf2 sz2 mb2 um2 := by
  have k0 : (0 : Int64) = (0 : Int32).toInt64 := by decide
  have k40 : (40 : Int64) = (40 : Int32).toInt64 := by decide
  rcases slot_cases q with ⟨j, hj, rfl⟩ | hq
  · rcases num_cases w with ⟨u, hu, rfl⟩ | hw
    · have i8 : fX8_in (nI u).toInt64 0 40 = some 1 := by
        refine in8_yes ?_ ?_
        · rw [k0]; exact wide_nlt (nI_pos (by omega))
        · rw [k40]; exact wide_nlt (show ¬ nI 40 < nI u from nI_nlt (by omega) (by omega))
      have hcl : (nI (41 * j + u)).toNatClampNeg = 41 * j + u := nI_clamp (by omega)
      have hix : (41 : Int32) * nI j + nI u = nI (41 * j + u) := by rw [show (41 : Int32) = nI 41 from rfl, pk_mul, nI_add]
      have e8 : fX8_tells (nI j) (nI u) 0 um nw mb = br (nw (41 * j + u) = 0) (some (-2, um, nw, mb)) (bd (fX8_note um nw mb) (fun u7 => bd (fX8_manyOf (nI j) (upd nw (41 * j + u) 0)) (fun u10 => some (u10, u7.1, upd nw (41 * j + u) 0, u7.2)))) := by
        unfold fX8_tells
        rw [bd_eq (isSlot8_in j hj), brF (by decide), bd_eq i8, brF (by decide), hix, hcl, gd_eq ⟨nI_pos (by omega), by omega⟩]
        simp only [lt_, gd_eq (show ¬ nI (41 * j + u) < 0 ∧ 41 * j + u < 164 from ⟨nI_pos (by omega), by omega⟩), show vp_nar .boolean 0 = 0 from rfl]
      have hnow := (hS j hj).1 u hu
      by_cases hb : ¬ bi (sl j) u = true
      · refine ⟨-2, sl, sz, ch, bf, um, nw, mb, ?_, ?_, hS, hH⟩
        · unfold fX7_take
          rw [bd_eq (isSlot_in j hj), brF (by decide), bd_eq (isNum_in u hu), brF (by decide), cl4 hj, g4 hj, bd_eq (has_in hu), if_neg hb, brT rfl]
        · unfold fX8_take
          rw [e8, brT (by rw [hnow, if_neg hb])]
          rfl
      · have hx : ∀ i, i < 64 → bi (sl j &&& (((1 : Int64) <<< ((nI u).toInt64 &&& 63)) ^^^ (-1 : Int64))) i = if i = u then false else bi (sl j) i := by
          intro i hi
          rw [bi_and, bi_xor, bi_one (by omega), bi_m1 hi]
          by_cases e : i = u
          · rw [if_pos e, decide_eq_true e]; simp
          · rw [if_neg e, decide_eq_false e]; simp
        have hx41 : ∀ v, 41 ≤ v → bi (sl j &&& (((1 : Int64) <<< ((nI u).toInt64 &&& 63)) ^^^ (-1 : Int64))) v = false := by
          intro v hv
          by_cases h64 : v < 64
          · rw [hx v h64, if_neg (by omega)]; exact (hS j hj).2 v hv
          · exact bi_big (by omega)
        obtain ⟨sz2, ch2, bf2, um2, mb2, h1, h2, h3⟩ := change_eq hS hH hj hx41
        have hS2 := hS.one hj hu false hx
        rw [if_neg (by decide)] at hS2
        refine ⟨nI (cn (vp_updL sl j (sl j &&& (((1 : Int64) <<< ((nI u).toInt64 &&& 63)) ^^^ (-1 : Int64)))) j), vp_updL sl j (sl j &&& (((1 : Int64) <<< ((nI u).toInt64 &&& 63)) ^^^ (-1 : Int64))), sz2, ch2, bf2, um2, upd nw (41 * j + u) 0, mb2, ?_, ?_, hS2, h3⟩
        · unfold fX7_take
          rw [bd_eq (isSlot_in j hj), brF (by decide), bd_eq (isNum_in u hu), brF (by decide), cl4 hj, g4 hj, bd_eq (has_in hu), if_pos (Classical.not_not.mp hb), brF (by decide), g4 hj, bd_eq h1]
        · unfold fX8_take
          rw [e8, brF (by rw [hnow, if_pos (Classical.not_not.mp hb)]; decide), bd_eq h2, bd_eq (manyOf_eq hS2 hj)]
          rfl
    · refine ⟨-1, sl, sz, ch, bf, um, nw, mb, ?_, ?_, hS, hH⟩
      · unfold fX7_take
        rw [bd_eq (isSlot_in j hj), brF (by decide), bd_eq (isNum_out hw), brT rfl]
      · unfold fX8_take fX8_tells
        have i8 : fX8_in w.toInt64 0 40 = some 0 := by
          refine in8_no ?_
          rcases hw with hw | hw
          · left; rw [k0]; exact wide_lt hw
          · right; rw [k40]
            refine wide_lt ?_
            rw [Int32.le_iff_toInt_le] at hw
            rw [Int32.lt_iff_toInt_lt]
            have e1 : (nI 41).toInt = 41 := by decide
            have e2 : (40 : Int32).toInt = 40 := by decide
            omega
        rw [bd_eq (isSlot8_in j hj), brF (by decide), bd_eq i8, brT rfl]
        rfl
  · refine ⟨-1, sl, sz, ch, bf, um, nw, mb, ?_, ?_, hS, hH⟩
    · unfold fX7_take
      rw [bd_eq (isSlot_out hq), brT rfl]
    · unfold fX8_take fX8_tells
      rw [bd_eq (isSlot8_out hq), brT rfl]
      rfl
