theorem bestSet_eq {A : Nat → Bool} {nu : Nat → Int32} (hnu : ∀ e, e < 41 → A e = true → nu (fb_ct A e) = nI e) (h12 : fb_ct A 41 ≤ 12) {q : Nat} (hq : q < 2 ^ (fb_ct A 41)) : ∃ m, fX5_bestSet (nI q) nu = some m ∧ ∀ v, bi m v = true ↔ v < 41 ∧ A v = true ∧ q.testBit (fb_ct A v) = true := by
  have h2n := two_n (fb_ct A 41) (by omega)
  unfold fX5_bestSet
  refine run_inv0 (step := sX5_bestSet_4 (nI q) nu) 12 (fun i s => s.2 = nI i ∧ ∀ v, bi s.1 v = true ↔ v < 41 ∧ A v = true ∧ q.testBit (fb_ct A v) = true ∧ fb_ct A v < i) (fun m => ∀ v, bi m v = true ↔ v < 41 ∧ A v = true ∧ q.testBit (fb_ct A v) = true) ?_ ?_ ⟨rfl, fun v => by
    show bi 0 v = true ↔ _
    rw [bi_0]
    constructor
    · intro z; cases z
    · rintro ⟨_, _, _, z⟩; omega⟩
  · rintro i ⟨m, x⟩ hi ⟨rfl, hm⟩
    have hm : ∀ v, bi m v = true ↔ v < 41 ∧ A v = true ∧ q.testBit (fb_ct A v) = true ∧ fb_ct A v < i := hm
    show (∃ q2, bX5_bestSet_4 (nI q) nu m (nI i) = _ ∧ _) ∨ _
    unfold bX5_bestSet_4 bX5_bestSet_32
    simp only [lt_]
    rw [brF (show ¬ (12 : Int32) ≤ nI i from nI_ge (b := 12) hi (by omega)), ub (by omega) (by omega)]
    by_cases hb : q.testBit i = true
    · have hin : i < fb_ct A 41 := by
        rcases Nat.lt_or_ge i (fb_ct A 41) with z | z
        · exact z
        · rw [Nat.testBit_lt_two_pow (Nat.lt_of_lt_of_le hq (Nat.pow_le_pow_right (by omega) z))] at hb; cases hb
      obtain ⟨e, e1, e2, e3⟩ := fb_ct_kth hin
      have hnu2 : nu i = nI e := by rw [← e3]; exact hnu e e1 e2
      rw [brF (fun z => by rw [b1_0, hb] at z; cases z), nI_clamp (by omega), gd_eq ⟨nI_pos (by omega), by omega⟩, hnu2]
      refine Or.inl ⟨_, rfl, nI_1 i, fun v => ?_⟩
      show bi (m ||| ((1 : Int64) <<< ((nI e).toInt64 &&& 63))) v = true ↔ _
      rw [bi_or, bi_one (by omega), Bool.or_eq_true, hm, decide_eq_true_iff]
      constructor
      · rintro (⟨v1, v2, v3, v4⟩ | rfl)
        · exact ⟨v1, v2, v3, by omega⟩
        · exact ⟨e1, e2, by rw [e3]; exact hb, by omega⟩
      · rintro ⟨v1, v2, v3, v4⟩
        by_cases ev : fb_ct A v = i
        · exact Or.inr (fb_ct_kth_one v2 e2 (by omega))
        · exact Or.inl ⟨v1, v2, v3, by omega⟩
    · rw [brT (by rw [b1_0]; simpa using hb)]
      refine Or.inl ⟨_, rfl, nI_1 i, fun v => ?_⟩
      show bi m v = true ↔ _
      rw [hm]
      constructor
      · rintro ⟨v1, v2, v3, v4⟩
        exact ⟨v1, v2, v3, by omega⟩
      · rintro ⟨v1, v2, v3, v4⟩
        refine ⟨v1, v2, v3, ?_⟩
        rcases Nat.lt_or_ge (fb_ct A v) i with z | z
        · exact z
        · rw [show fb_ct A v = i by omega] at v3; exact absurd v3 hb
  · rintro ⟨m, x⟩ ⟨rfl, hm⟩
    have hm : ∀ v, bi m v = true ↔ v < 41 ∧ A v = true ∧ q.testBit (fb_ct A v) = true ∧ fb_ct A v < 12 := hm
    show ∃ t, bX5_bestSet_4 (nI q) nu m (nI 12) = _ ∧ _
    unfold bX5_bestSet_4
    rw [brT (by decide)]
    refine ⟨m, rfl, fun v => ?_⟩
    rw [hm]
    constructor
    · rintro ⟨v1, v2, v3, v4⟩
      exact ⟨v1, v2, v3⟩
    · rintro ⟨v1, v2, v3⟩
      exact ⟨v1, v2, v3, by have := ct_lt v1 v2; omega⟩
theorem shr8_62 {A : Nat → Bool} {fi : Nat → Int32} (hfi : ∀ e, e < 41 → A e = true → fi (fb_ct A e) = nI e) (h12 : fb_ct A 41 ≤ 12) {q : Nat} (hq : q < 2 ^ (fb_ct A 41)) (x1 um ls : Int32) (nw mb se : Nat → Int32) {sm : Nat → Int32} (hsm : ∀ v, v < 41 → sm v = 0) :
    ∃ sm2, run (sX8_shrink_62 x1 um ls (nI q) nw mb fi se) ((0 : Int32), sm) = run (sX8_shrink_62 x1 um ls (nI q) nw mb fi se) (nI 12, sm2) ∧ ∀ v, v < 41 → is01 (sm2 v) (A v = true ∧ q.testBit (fb_ct A v) = true) := by
  have h2n := two_n (fb_ct A 41) (by omega)
  obtain ⟨⟨x, f⟩, h1, h2, h3⟩ := run_go (step := sX8_shrink_62 x1 um ls (nI q) nw mb fi se) 12 (fun i s => s.1 = nI i ∧ ∀ v, v < 41 → is01 (s.2 v) (A v = true ∧ q.testBit (fb_ct A v) = true ∧ fb_ct A v < i)) (by
    rintro i ⟨x, f⟩ hi ⟨rfl, hf⟩
    show ∃ q2, bX8_shrink_62 x1 um ls (nI q) nw mb fi se (nI i) f = _ ∧ _
    unfold bX8_shrink_62 bX8_shrink_95
    simp only [lt_]
    rw [brF (show ¬ (12 : Int32) ≤ nI i from nI_ge (b := 12) hi (by omega)), sb (by omega) (by omega)]
    by_cases hb : q.testBit i = true
    · have hin : i < fb_ct A 41 := by
        rcases Nat.lt_or_ge i (fb_ct A 41) with z | z
        · exact z
        · rw [Nat.testBit_lt_two_pow (Nat.lt_of_lt_of_le hq (Nat.pow_le_pow_right (by omega) z))] at hb; cases hb
      obtain ⟨e, e1, e2, e3⟩ := fb_ct_kth hin
      have hnu2 : fi i = nI e := by rw [← e3]; exact hfi e e1 e2
      rw [brT (b1_1.mpr hb), nI_clamp (by omega), gd_eq ⟨nI_pos (by omega), by omega⟩, hnu2, nI_clamp (by omega), gd_eq ⟨nI_pos (by omega), by omega⟩]
      refine ⟨_, rfl, nI_1 i, fun v hv => ?_⟩
      show is01 (upd f e 1 v) _
      by_cases ev : v = e
      · rw [ev, pk_us]
        exact is01.yes ⟨e2, by rw [e3]; exact hb, by omega⟩
      · rw [pk_un ev]
        refine (hf v hv).congr ⟨?_, ?_⟩
        · rintro ⟨v2, v3, v4⟩
          exact ⟨v2, v3, by omega⟩
        · rintro ⟨v2, v3, v4⟩
          refine ⟨v2, v3, ?_⟩
          rcases Nat.lt_or_ge (fb_ct A v) i with z | z
          · exact z
          · exact absurd (fb_ct_kth_one v2 e2 (by omega)) ev
    · rw [brF (fun z => hb (b1_1.mp z))]
      refine ⟨_, rfl, nI_1 i, fun v hv => (hf v hv).congr ⟨?_, ?_⟩⟩
      · rintro ⟨v2, v3, v4⟩
        exact ⟨v2, v3, by omega⟩
      · rintro ⟨v2, v3, v4⟩
        refine ⟨v2, v3, ?_⟩
        rcases Nat.lt_or_ge (fb_ct A v) i with z | z
        · exact z
        · rw [show fb_ct A v = i by omega] at v3; exact absurd v3 hb) 12 0 ((0 : Int32), sm) rfl ⟨rfl, fun v hv => by
      show is01 (sm v) _
      rw [hsm v hv]
      exact is01.no (fun z => by have := z.2.2; omega)⟩
  cases h2
  refine ⟨f, h1, fun v hv => (h3 v hv).congr ⟨?_, ?_⟩⟩
  · rintro ⟨v2, v3, v4⟩
    exact ⟨v2, v3⟩
  · rintro ⟨v2, v3⟩
    exact ⟨v2, v3, by have := ct_lt hv v2; omega⟩
theorem shr8_38 (x1 um ls lp : Int32) (nw mb fi se sm : Nat → Int32) : ∃ sm2, (∀ t, run (sX8_shrink_62 x1 um ls lp nw mb fi se) ((0 : Int32), sm2) = some t → run (sX8_shrink_38 x1 um ls lp nw mb fi se) ((0 : Int32), sm) = some t) ∧ ∀ v, v < 41 → sm2 v = 0 := by
  obtain ⟨⟨x, f⟩, h1, h2, h3⟩ := run_go (step := sX8_shrink_38 x1 um ls lp nw mb fi se) 41 (fun i q => q.1 = nI i ∧ ∀ v, v < i → q.2 v = 0) (by
    rintro i ⟨p, f⟩ hi ⟨rfl, hf⟩
    show ∃ q2, bX8_shrink_38 x1 um ls lp nw mb fi se (nI i) f = _ ∧ _
    unfold bX8_shrink_38
    simp only [lt_]
    rw [brF (show ¬ (41 : Int32) ≤ nI i from nI_ge (b := 41) (by omega) (by omega)), nI_clamp (by omega), gd_eq ⟨nI_pos (by omega), by omega⟩]
    refine ⟨_, rfl, nI_1 i, fun v hv => ?_⟩
    show upd f i 0 v = 0
    by_cases e : v = i
    · subst e; exact pk_us
    · rw [pk_un e]; exact hf v (by omega)) 41 0 ((0 : Int32), sm) rfl ⟨rfl, fun v hv => absurd hv (by omega)⟩
  cases h2
  refine ⟨f, fun t e => ?_, h3⟩
  rw [h1]
  refine run_inr ?_
  show bX8_shrink_38 x1 um ls lp nw mb fi se (nI 41) f = _
  unfold bX8_shrink_38
  rw [brT (by decide), e]; rfl
theorem core_shrink {sl : Nat → Int64} {nw ch : Nat → Int32} {bf : Nat → Int64} {sz um : Int32} {mb : Nat → Int32} (hS : RS sl nw) (hH : RH sl ch bf sz mb um) {wh ad : Int64} {nu : Nat → Int32} {bp bu bz : Int32} (hc : CW wh ad nu bp bu bz) (q w z : Int32) (lo hi : Nat → Int64) (ls lp : Int32) (fi se sm : Nat → Int32) :
    ∃ r sl2 sz2 ch2 bf2 wh2 ad2 bp2 bu2 bz2 nu2 lo2 hi2 um2 ls2 lp2 nw2 mb2 fi2 se2 sm2, fX7_shrink q w z sl sz ch bf wh ad bp bu bz nu lo hi = some (r, sl2, sz2, ch2, bf2, wh2, ad2, bp2, bu2, bz2, nu2, lo2, hi2) ∧ fX8_shrink q w z um ls lp nw mb fi se sm = some (r, um2, ls2, lp2, nw2, mb2, fi2, se2, sm2) ∧ RS sl2 nw2 ∧ RH sl2 ch2 bf2 sz2 mb2 um2 ∧ CW wh2 ad2 nu2 bp2 bu2 bz2 := by
  rcases slot_cases q with ⟨k, hk, rfl⟩ | hq
  · rcases slot_cases w with ⟨a, ha, rfl⟩ | hw
    · rcases slot_cases z with ⟨b, hb, rfl⟩ | hz
      · by_cases hn : cn sl a ≠ 0 ∧ cn sl b ≠ 0 ∧ cn sl a ≤ 12
        · have hx0 : sl a ≠ 0 := fun y => hn.1 ((zero_iff hS ha).mp y)
          obtain ⟨nu2, lo2, hi2, s1, s2⟩ := seek5 hx0 (hS b hb).2 (show 1 ≤ cn sl a by omega) hn.2.2 hc lo hi
          obtain ⟨sm2, t1⟩ := findLeast_yes hS ha hb hn ls lp fi se sm
          have hsw := sw_lt (A := bi (sl a)) (B := bi (sl b)) (n := cn sl a) (by omega) hn.2.2
          have hCW : CW (sl a) (sl b) nu2 (nI (swl (gm (bi (sl a)) (bi (sl b))) (2 ^ (cn sl a) - 1)).1) (nI (swl (gm (bi (sl a)) (bi (sl b))) (2 ^ (cn sl a) - 1)).2) (nI (bs (swl (gm (bi (sl a)) (bi (sl b))) (2 ^ (cn sl a) - 1)).1)) := Or.inr ⟨s2, rfl, rfl, rfl⟩
          have s1' : fX5_seek (sl a) (sl b) wh ad bp bu bz nu lo hi = some (sl a, sl b, nI (swl (gm (bi (sl a)) (bi (sl b))) (2 ^ (cn sl a) - 1)).1, nI (swl (gm (bi (sl a)) (bi (sl b))) (2 ^ (cn sl a) - 1)).2, nI (bs (swl (gm (bi (sl a)) (bi (sl b))) (2 ^ (cn sl a) - 1)).1), nu2, lo2, hi2) := s1
          clear s1
          generalize swl (gm (bi (sl a)) (bi (sl b))) (2 ^ (cn sl a) - 1) = S at *
          obtain ⟨p, s⟩ := S
          have hsw : p < 2 ^ (cn sl a) ∧ p ≠ 0 ∧ s ≤ 81 := hsw
          obtain ⟨m, m1, m2⟩ := bestSet_eq (A := bi (sl a)) s2 hn.2.2 (q := p) hsw.1
          obtain ⟨sm3, z1, z2⟩ := shr8_38 (nI k) um (nI s) (nI p) nw mb (lsF (bi (sl a)) fi 41) (lsF (bi (sl b)) se 41) sm2
          obtain ⟨sm4, y1, y2⟩ := shr8_62 (A := bi (sl a)) (fi := lsF (bi (sl a)) fi 41) (fun e he hb => lsF_at he hb) hn.2.2 (q := p) hsw.1 (nI k) um (nI s) nw mb (lsF (bi (sl b)) se 41) z2
          have hx : ∀ v, 41 ≤ v → bi m v = false := by
            intro v hv
            cases e : bi m v with
            | false => rfl
            | true => have := ((m2 v).mp e).1; omega
          obtain ⟨r, sl2, sz2, ch2, bf2, um2, nw2, mb2, c1, c2, c3, c4⟩ := becomes8 hS hH hk hx (sm := sm4) (fun v hv => (y2 v hv).congr ⟨fun y => (m2 v).mpr ⟨hv, y⟩, fun y => ((m2 v).mp y).2⟩)
          refine ⟨r, sl2, sz2, ch2, bf2, sl a, sl b, nI p, nI s, nI (bs p), nu2, lo2, hi2, um2, nI s, nI p, nw2, mb2, lsF (bi (sl a)) fi 41, lsF (bi (sl b)) se 41, sm4, ?_, ?_, c3, c4, hCW⟩
          · unfold fX7_shrink
            rw [bd_eq (isSlot_in k hk), brF (by decide), bd_eq (isSlot_in a ha), brF (by decide), bd_eq (isSlot_in b hb), brF (by decide), bd_eq (canSwell_eq hS ha hb), if_pos hn, brF (by decide), cl4 ha, cl4 hb, g4 ha, g4 hb, bd_eq s1', show bd (fX5_bestSet (nI p) nu2) _ = _ from bd_eq m1, bd_eq c1]
          · unfold fX8_shrink
            rw [bd_eq (isSlot8_in k hk), brF (by decide), bd_eq (isSlot8_in a ha), brF (by decide), bd_eq (isSlot8_in b hb), brF (by decide), bd_eq t1, brF (show ¬ (1 : Int32) = 0 by decide)]
            refine z1 _ ?_
            rw [y1]
            refine run_inr ?_
            show bX8_shrink_62 (nI k) um (nI s) (nI p) nw mb (lsF (bi (sl a)) fi 41) (lsF (bi (sl b)) se 41) (nI 12) sm4 = _
            unfold bX8_shrink_62
            rw [brT (by decide), bd_eq c2]
        · refine ⟨-2, sl, sz, ch, bf, wh, ad, bp, bu, bz, nu, lo, hi, um, ls, lp, nw, mb, lsF (bi (sl a)) fi 41, lsF (bi (sl b)) se 41, sm, ?_, ?_, hS, hH, hc⟩
          · unfold fX7_shrink
            rw [bd_eq (isSlot_in k hk), brF (by decide), bd_eq (isSlot_in a ha), brF (by decide), bd_eq (isSlot_in b hb), brF (by decide), bd_eq (canSwell_eq hS ha hb), if_neg hn, brT rfl]
          · unfold fX8_shrink
            rw [bd_eq (isSlot8_in k hk), brF (by decide), bd_eq (isSlot8_in a ha), brF (by decide), bd_eq (isSlot8_in b hb), brF (by decide), bd_eq (findLeast_no hS ha hb hn ls lp fi se sm), brT rfl]
      · refine ⟨-1, sl, sz, ch, bf, wh, ad, bp, bu, bz, nu, lo, hi, um, ls, lp, nw, mb, fi, se, sm, ?_, ?_, hS, hH, hc⟩
        · unfold fX7_shrink
          rw [bd_eq (isSlot_in k hk), brF (by decide), bd_eq (isSlot_in a ha), brF (by decide), bd_eq (isSlot_out hz), brT rfl]
        · unfold fX8_shrink
          rw [bd_eq (isSlot8_in k hk), brF (by decide), bd_eq (isSlot8_in a ha), brF (by decide), bd_eq (isSlot8_out hz), brT rfl]
    · refine ⟨-1, sl, sz, ch, bf, wh, ad, bp, bu, bz, nu, lo, hi, um, ls, lp, nw, mb, fi, se, sm, ?_, ?_, hS, hH, hc⟩
      · unfold fX7_shrink
        rw [bd_eq (isSlot_in k hk), brF (by decide), bd_eq (isSlot_out hw), brT rfl]
      · unfold fX8_shrink
        rw [bd_eq (isSlot8_in k hk), brF (by decide), bd_eq (isSlot8_out hw), brT rfl]
  · refine ⟨-1, sl, sz, ch, bf, wh, ad, bp, bu, bz, nu, lo, hi, um, ls, lp, nw, mb, fi, se, sm, ?_, ?_, hS, hH, hc⟩
    · unfold fX7_shrink
      rw [bd_eq (isSlot_out hq), brT rfl]
    · unfold fX8_shrink
      rw [bd_eq (isSlot8_out hq), brT rfl]
