/-- the kept search of the least swelling -/
def CW (wh ad : Int64) (nu : Nat → Int32) (bp bu bz : Int32) : Prop := wh = 0 ∨ ((∀ e, e < 41 → bi wh e = true → nu (fb_ct (bi wh) e) = nI e) ∧ bp = nI (swl (gm (bi wh) (bi ad)) (2 ^ (fb_ct (bi wh) 41) - 1)).1 ∧ bu = nI (swl (gm (bi wh) (bi ad)) (2 ^ (fb_ct (bi wh) 41) - 1)).2 ∧ bz = nI (bs (swl (gm (bi wh) (bi ad)) (2 ^ (fb_ct (bi wh) 41) - 1)).1))
theorem seek5 {x y : Int64} (hx0 : x ≠ 0) (hy : ∀ v, 41 ≤ v → bi y v = false) (h1 : 1 ≤ fb_ct (bi x) 41) (h12 : fb_ct (bi x) 41 ≤ 12) {wh ad : Int64} {nu : Nat → Int32} {bp bu bz : Int32} (hc : CW wh ad nu bp bu bz) (lo hi : Nat → Int64) :
    ∃ nu2 lo2 hi2, fX5_seek x y wh ad bp bu bz nu lo hi = some (x, y, nI (swl (gm (bi x) (bi y)) (2 ^ (fb_ct (bi x) 41) - 1)).1, nI (swl (gm (bi x) (bi y)) (2 ^ (fb_ct (bi x) 41) - 1)).2, nI (bs (swl (gm (bi x) (bi y)) (2 ^ (fb_ct (bi x) 41) - 1)).1), nu2, lo2, hi2) ∧ ∀ e, e < 41 → bi x e = true → nu2 (fb_ct (bi x) e) = nI e := by
  have fresh : ∃ nu2 lo2 hi2, bX5_seek_19 x y wh ad bp bu bz nu lo hi = some (x, y, nI (swl (gm (bi x) (bi y)) (2 ^ (fb_ct (bi x) 41) - 1)).1, nI (swl (gm (bi x) (bi y)) (2 ^ (fb_ct (bi x) 41) - 1)).2, nI (bs (swl (gm (bi x) (bi y)) (2 ^ (fb_ct (bi x) 41) - 1)).1), nu2, lo2, hi2) ∧ ∀ e, e < 41 → bi x e = true → nu2 (fb_ct (bi x) e) = nI e := by
    obtain ⟨g1, f1, f2⟩ := fill_run (x := 0) (n := 13) (by omega) lo
    obtain ⟨g2, f3, f4⟩ := fill_run (x := 0) (n := 13) (by omega) hi
    have hl : ∀ e, e < 41 → bi x e = true → lsF (bi x) nu 41 (fb_ct (bi x) e) = nI e := fun e he hb => lsF_at he hb
    obtain ⟨lo2, hi2, r⟩ := seek5_run hy hl h1 h12 bu bz f2 f4
    refine ⟨lsF (bi x) nu 41, lo2, hi2, ?_, hl⟩
    unfold bX5_seek_19
    rw [bd_eq f1, bd_eq f3, bd_eq (lists7_eq x (n := 12) (by omega) h12 nu)]
    exact r
  unfold fX5_seek
  by_cases e1 : x = wh
  · rw [brT ((cmp_eq _ _).mpr e1)]
    by_cases e2 : y = ad
    · rw [brT ((cmp_eq _ _).mpr e2)]
      subst e1
      subst e2
      rcases hc with z | ⟨z1, z2, z3, z4⟩
      · exact absurd z hx0
      · exact ⟨nu, lo, hi, by rw [z2, z3, z4], z1⟩
    · rw [brF (fun z => e2 ((cmp_eq _ _).mp z))]; exact fresh
  · rw [brF (fun z => e1 ((cmp_eq _ _).mp z))]; exact fresh
theorem bs_pos {q : Nat} (hq : q < 2 ^ 12) (h0 : q ≠ 0) : 1 ≤ bs q := by
  obtain ⟨k, hk⟩ := lowN_ex h0
  exact fb_ct_pos.mpr ⟨k, lowN_lt hk hq, hk.1⟩
theorem canSwell_eq {sl : Nat → Int64} {nw : Nat → Int32} (h : RS sl nw) {a b : Nat} (ha : a < 4) (hb : b < 4) : fX7_canSwell (nI a) (nI b) sl = some (if cn sl a ≠ 0 ∧ cn sl b ≠ 0 ∧ cn sl a ≤ 12 then 1 else 0) := by
  have hc := cn_le sl a
  have e40 : bX7_canSwell_40 sl = some 0 := by unfold bX7_canSwell_40; exact gd_eq (Or.inl rfl)
  unfold fX7_canSwell
  rw [e40, cl4 ha, cl4 hb, g4 ha, g4 hb, g4 ha, bd_eq (h.bc ha)]
  by_cases h1 : cn sl a = 0
  · rw [brT ((cz_iff h ha).mpr h1), if_neg (by omega)]
  · rw [brF (fun z => h1 ((cz_iff h ha).mp z))]
    by_cases h2 : cn sl b = 0
    · rw [brT ((cz_iff h hb).mpr h2), if_neg (by omega)]
    · rw [brF (fun z => h2 ((cz_iff h hb).mp z))]
      by_cases h3 : cn sl a ≤ 12
      · rw [brF (show ¬ (12 : Int32) < nI (cn sl a) from nI_nlt (a := 12) h3 (by omega)), gd_eq (Or.inr rfl), if_pos ⟨h1, h2, h3⟩]
      · rw [brT (show (12 : Int32) < nI (cn sl a) from nI_lt (a := 12) (by omega) (by omega)), if_neg (by omega)]
theorem findLeast_no {sl : Nat → Int64} {nw : Nat → Int32} (h : RS sl nw) {a b : Nat} (ha : a < 4) (hb : b < 4) (hn : ¬ (cn sl a ≠ 0 ∧ cn sl b ≠ 0 ∧ cn sl a ≤ 12)) (ls lp : Int32) (fi se sm : Nat → Int32) : fX8_findLeast (nI a) (nI b) ls lp nw fi se sm = some (0, ls, lp, lsF (bi (sl a)) fi 41, lsF (bi (sl b)) se 41, sm) := by
  have hc := cn_le sl a
  have hc2 := cn_le sl b
  unfold fX8_findLeast
  rw [bd_eq (lists8_eq h ha fi), bd_eq (lists8_eq h hb se)]
  by_cases h1 : cn sl a = 0
  · rw [brT (show nI (cn sl a) = 0 by rw [h1]; rfl), gd_eq (Or.inl rfl)]
  · rw [brF (nI_ne0 (by omega) (by omega))]
    by_cases h2 : cn sl b = 0
    · rw [brT (show nI (cn sl b) = 0 by rw [h2]; rfl), gd_eq (Or.inl rfl)]
    · rw [brF (nI_ne0 (by omega) (by omega)), brF (show ¬ nI (cn sl a) ≤ (12 : Int32) from nI_ge (a := 12) (by omega) (by omega)), gd_eq (Or.inl rfl)]
theorem findLeast_yes {sl : Nat → Int64} {nw : Nat → Int32} (h : RS sl nw) {a b : Nat} (ha : a < 4) (hb : b < 4) (hn : cn sl a ≠ 0 ∧ cn sl b ≠ 0 ∧ cn sl a ≤ 12) (ls lp : Int32) (fi se sm : Nat → Int32) : ∃ sm2, fX8_findLeast (nI a) (nI b) ls lp nw fi se sm = some (1, nI (swl (gm (bi (sl a)) (bi (sl b))) (2 ^ (cn sl a) - 1)).2, nI (swl (gm (bi (sl a)) (bi (sl b))) (2 ^ (cn sl a) - 1)).1, lsF (bi (sl a)) fi 41, lsF (bi (sl b)) se 41, sm2) := by
  have hc := cn_le sl a
  have hc2 := cn_le sl b
  obtain ⟨sm2, r⟩ := least8_run (A := bi (sl a)) (B := bi (sl b)) (nw := nw) (fi := lsF (bi (sl a)) fi 41) (se := lsF (bi (sl b)) se 41) (fun e he hb => lsF_at he hb) (fun e he hb => lsF_at he hb) (h b hb).2 (show 1 ≤ cn sl a by omega) hn.2.2 ls sm
  refine ⟨sm2, ?_⟩
  unfold fX8_findLeast
  rw [bd_eq (lists8_eq h ha fi), bd_eq (lists8_eq h hb se), brF (nI_ne0 (by omega) (by omega)), brF (nI_ne0 (by omega) (by omega)), brT (show nI (cn sl a) ≤ (12 : Int32) from nI_le (b := 12) (by omega) (by omega))]
  exact r
theorem p2 : (2 : Int64) = (2 : Int32).toInt64 := by decide
theorem sw_lt {A B : Nat → Bool} {n : Nat} (h1 : 1 ≤ n) (h2 : n ≤ 12) : (swl (gm A B) (2 ^ n - 1)).1 < 2 ^ n ∧ (swl (gm A B) (2 ^ n - 1)).1 ≠ 0 ∧ (swl (gm A B) (2 ^ n - 1)).2 ≤ 81 := by
  have h2n := two_n n (by omega)
  have hp2 : 2 ≤ 2 ^ n := by
    calc 2 = 2 ^ 1 := rfl
      _ ≤ 2 ^ n := Nat.pow_le_pow_right (by omega) h1
  have := sw_ok (G := gm A B) (gm_le A B) (2 ^ n - 1)
  exact ⟨by omega, this.2.2 (by omega), this.2.1⟩
theorem core_swell {sl : Nat → Int64} {nw : Nat → Int32} (h : RS sl nw) {wh ad : Int64} {nu : Nat → Int32} {bp bu bz : Int32} (hc : CW wh ad nu bp bu bz) (q w z : Int32) (lo hi : Nat → Int64) (ls lp : Int32) (fi se sm : Nat → Int32) :
    ∃ r wh2 ad2 bp2 bu2 bz2 nu2 lo2 hi2 ls2 lp2 fi2 se2 sm2, fX7_swell q w z sl wh ad bp bu bz nu lo hi = some (r, wh2, ad2, bp2, bu2, bz2, nu2, lo2, hi2) ∧ fX8_swell q w z ls lp nw fi se sm = some (r, ls2, lp2, fi2, se2, sm2) ∧ CW wh2 ad2 nu2 bp2 bu2 bz2 := by
  rcases slot_cases q with ⟨a, ha, rfl⟩ | hq
  · rcases slot_cases w with ⟨b, hb, rfl⟩ | hw
    · by_cases hz : z < 0 ∨ 2 < z
      · refine ⟨-1, wh, ad, bp, bu, bz, nu, lo, hi, ls, lp, fi, se, sm, ?_, ?_, hc⟩
        · unfold fX7_swell
          rw [bd_eq (isSlot_in a ha), brF (by decide), bd_eq (isSlot_in b hb), brF (by decide)]
          by_cases z0 : z < 0
          · rw [brT z0]
          · rw [brF z0, brF (Int32.not_le.mpr (hz.resolve_left z0))]
        · unfold fX8_swell
          rw [bd_eq (isSlot8_in a ha), brF (by decide), bd_eq (isSlot8_in b hb), brF (by decide), p0, p2, in8_dec, if_pos hz, bd_eq rfl, brT rfl]
      · have z0 : ¬ z < 0 := fun y => hz (Or.inl y)
        have z2 : z ≤ 2 := Int32.not_lt.mp (fun y => hz (Or.inr y))
        by_cases hn : cn sl a ≠ 0 ∧ cn sl b ≠ 0 ∧ cn sl a ≤ 12
        · have hx0 : sl a ≠ 0 := fun y => hn.1 ((zero_iff h ha).mp y)
          obtain ⟨nu2, lo2, hi2, s1, s2⟩ := seek5 hx0 (h b hb).2 (show 1 ≤ cn sl a by omega) hn.2.2 hc lo hi
          obtain ⟨sm2, t1⟩ := findLeast_yes h ha hb hn ls lp fi se sm
          have hsw := sw_lt (A := bi (sl a)) (B := bi (sl b)) (n := cn sl a) (by omega) hn.2.2
          have h2n := two_n (cn sl a) (by omega)
          have e7 : fX7_swell (nI a) (nI b) z sl wh ad bp bu bz nu lo hi = bd (fX5_answer z (nI (swl (gm (bi (sl a)) (bi (sl b))) (2 ^ (cn sl a) - 1)).1) (nI (swl (gm (bi (sl a)) (bi (sl b))) (2 ^ (cn sl a) - 1)).2) (nI (bs (swl (gm (bi (sl a)) (bi (sl b))) (2 ^ (cn sl a) - 1)).1))) (fun u12 => some (u12, sl a, sl b, nI (swl (gm (bi (sl a)) (bi (sl b))) (2 ^ (cn sl a) - 1)).1, nI (swl (gm (bi (sl a)) (bi (sl b))) (2 ^ (cn sl a) - 1)).2, nI (bs (swl (gm (bi (sl a)) (bi (sl b))) (2 ^ (cn sl a) - 1)).1), nu2, lo2, hi2)) := by
            unfold fX7_swell
            rw [bd_eq (isSlot_in a ha), brF (by decide), bd_eq (isSlot_in b hb), brF (by decide), brF z0, brT z2, bd_eq (canSwell_eq h ha hb), if_pos hn, brF (by decide), cl4 ha, cl4 hb, g4 ha, g4 hb, bd_eq s1]
            rfl
          have hCW : CW (sl a) (sl b) nu2 (nI (swl (gm (bi (sl a)) (bi (sl b))) (2 ^ (cn sl a) - 1)).1) (nI (swl (gm (bi (sl a)) (bi (sl b))) (2 ^ (cn sl a) - 1)).2) (nI (bs (swl (gm (bi (sl a)) (bi (sl b))) (2 ^ (cn sl a) - 1)).1)) := Or.inr ⟨s2, rfl, rfl, rfl⟩
          have e8 : ∀ r, (∀ t1 t2 t3 t4 t5, br (z = 0) (gd (¬ nI (Nat.gcd (bs (swl (gm (bi (sl a)) (bi (sl b))) (2 ^ (cn sl a) - 1)).1) (swl (gm (bi (sl a)) (bi (sl b))) (2 ^ (cn sl a) - 1)).2) = 0) (some (nI (swl (gm (bi (sl a)) (bi (sl b))) (2 ^ (cn sl a) - 1)).2 / nI (Nat.gcd (bs (swl (gm (bi (sl a)) (bi (sl b))) (2 ^ (cn sl a) - 1)).1) (swl (gm (bi (sl a)) (bi (sl b))) (2 ^ (cn sl a) - 1)).2), t1, t2, t3, t4, t5))) (br (z = 1) (gd (¬ nI (Nat.gcd (bs (swl (gm (bi (sl a)) (bi (sl b))) (2 ^ (cn sl a) - 1)).1) (swl (gm (bi (sl a)) (bi (sl b))) (2 ^ (cn sl a) - 1)).2) = 0) (some (nI (bs (swl (gm (bi (sl a)) (bi (sl b))) (2 ^ (cn sl a) - 1)).1) / nI (Nat.gcd (bs (swl (gm (bi (sl a)) (bi (sl b))) (2 ^ (cn sl a) - 1)).1) (swl (gm (bi (sl a)) (bi (sl b))) (2 ^ (cn sl a) - 1)).2), t1, t2, t3, t4, t5))) (some (nI (swl (gm (bi (sl a)) (bi (sl b))) (2 ^ (cn sl a) - 1)).1, t1, t2, t3, t4, t5))) = some ((r, t1, t2, t3, t4, t5) : Int32 × Int32 × Int32 × (Nat → Int32) × (Nat → Int32) × (Nat → Int32))) → fX8_swell (nI a) (nI b) z ls lp nw fi se sm = some (r, nI (swl (gm (bi (sl a)) (bi (sl b))) (2 ^ (cn sl a) - 1)).2, nI (swl (gm (bi (sl a)) (bi (sl b))) (2 ^ (cn sl a) - 1)).1, lsF (bi (sl a)) fi 41, lsF (bi (sl b)) se 41, sm2) := by
            intro r hr
            rw [← hr]
            have b1 := bs_le (swl (gm (bi (sl a)) (bi (sl b))) (2 ^ (cn sl a) - 1)).1
            unfold fX8_swell
            simp only [lt_]
            rw [bd_eq (isSlot8_in a ha), brF (by decide), bd_eq (isSlot8_in b hb), brF (by decide), p0, p2, in8_dec, if_neg hz, bd_eq rfl, brF (by decide), bd_eq t1, brF (show ¬ (1 : Int32) = 0 by decide), bd_eq (bits8 (by omega)), bd_eq (gd8 (by omega) (by omega)), bd_eq (bits8 (by omega))]
          generalize swl (gm (bi (sl a)) (bi (sl b))) (2 ^ (cn sl a) - 1) = S at *
          obtain ⟨q, s⟩ := S
          simp only at *
          have b1 := bs_le q
          have b2 := bs_pos (q := q) (by omega) hsw.2.1
          have hgp : 0 < Nat.gcd (bs q) s := Nat.gcd_pos_of_pos_left _ (by omega)
          have hgl : Nat.gcd (bs q) s ≤ 12 := Nat.le_trans (Nat.gcd_le_left _ (by omega)) b1
          have g0 : ¬ nI (Nat.gcd (bs q) s) = 0 := nI_ne0 (by omega) (by omega)
          have ans : ∃ r, fX5_answer z (nI q) (nI s) (nI (bs q)) = some r ∧ ∀ t1 t2 t3 t4 t5, br (z = 0) (gd (¬ nI (Nat.gcd (bs q) s) = 0) (some (nI s / nI (Nat.gcd (bs q) s), t1, t2, t3, t4, t5))) (br (z = 1) (gd (¬ nI (Nat.gcd (bs q) s) = 0) (some (nI (bs q) / nI (Nat.gcd (bs q) s), t1, t2, t3, t4, t5))) (some (nI q, t1, t2, t3, t4, t5))) = some ((r, t1, t2, t3, t4, t5) : Int32 × Int32 × Int32 × (Nat → Int32) × (Nat → Int32) × (Nat → Int32)) := by
            unfold fX5_answer
            simp only [lt_]
            rw [bd_eq (gd7 (by omega) (by omega)), gd_eq g0, gd_eq g0, brT (show (1 : Int32) ≤ nI (Nat.gcd (bs q) s) from nI_le (a := 1) hgp (by omega))]
            by_cases c2 : z = 2
            · subst c2
              rw [brT rfl]
              exact ⟨_, rfl, fun t1 t2 t3 t4 t5 => by rw [brF (by decide), brF (by decide)]⟩
            · rw [brF c2]
              by_cases c0 : z = 0
              · subst c0
                rw [brT rfl]
                exact ⟨_, rfl, fun t1 t2 t3 t4 t5 => by rw [brT rfl, gd_eq g0]⟩
              · rw [brF c0]
                have c1 : z = 1 := by
                  obtain ⟨j, j1, rfl⟩ := nI_of2 (x := z) (M := 2) (n := 2) (by decide) z0 z2
                  have j0 : j ≠ 0 := fun y => c0 (by rw [y]; rfl)
                  have j2 : j ≠ 2 := fun y => c2 (by rw [y]; rfl)
                  rw [show j = 1 by omega]; rfl
                exact ⟨_, rfl, fun t1 t2 t3 t4 t5 => by rw [brF c0, brT c1, gd_eq g0]⟩
          obtain ⟨r, r1, r2⟩ := ans
          refine ⟨r, sl a, sl b, nI q, nI s, nI (bs q), nu2, lo2, hi2, nI s, nI q, lsF (bi (sl a)) fi 41, lsF (bi (sl b)) se 41, sm2, ?_, e8 r r2, hCW⟩
          rw [e7, bd_eq r1]
        · refine ⟨-2, wh, ad, bp, bu, bz, nu, lo, hi, ls, lp, lsF (bi (sl a)) fi 41, lsF (bi (sl b)) se 41, sm, ?_, ?_, hc⟩
          · unfold fX7_swell
            rw [bd_eq (isSlot_in a ha), brF (by decide), bd_eq (isSlot_in b hb), brF (by decide), brF z0, brT z2, bd_eq (canSwell_eq h ha hb), if_neg hn, brT rfl]
          · unfold fX8_swell
            rw [bd_eq (isSlot8_in a ha), brF (by decide), bd_eq (isSlot8_in b hb), brF (by decide), p0, p2, in8_dec, if_neg hz, bd_eq rfl, brF (by decide), bd_eq (findLeast_no h ha hb hn ls lp fi se sm), brT rfl]
    · refine ⟨-1, wh, ad, bp, bu, bz, nu, lo, hi, ls, lp, fi, se, sm, ?_, ?_, hc⟩
      · unfold fX7_swell
        rw [bd_eq (isSlot_in a ha), brF (by decide), bd_eq (isSlot_out hw), brT rfl]
      · unfold fX8_swell
        rw [bd_eq (isSlot8_in a ha), brF (by decide), bd_eq (isSlot8_out hw), brT rfl]
  · refine ⟨-1, wh, ad, bp, bu, bz, nu, lo, hi, ls, lp, fi, se, sm, ?_, ?_, hc⟩
    · unfold fX7_swell
      rw [bd_eq (isSlot_out hq), brT rfl]
    · unfold fX8_swell
      rw [bd_eq (isSlot8_out hq), brT rfl]
