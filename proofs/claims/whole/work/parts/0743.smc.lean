theorem sm8_loop {n l : Nat} (h : tld n l) (w : Int32) (sm : Nat → Int32) : ∃ sm2, run (sX8_smallest_55 (nI n) (nI l) w) ((1000 : Int32), (0 : Int32), (1 : Int32), sm) = run (sX8_smallest_55 (nI n) (nI l) w) (nI (cf n l (Bn l)).1, nI (cf n l (Bn l)).2, nI (2 * 2 ^ l), sm2) := by
  have hl : l < 15 := by unfold tld at h; omega
  have hn : n < 9 := by unfold tld at h; omega
  obtain ⟨b1, b2, b3⟩ := betweens7 l hl
  have h2l : (2 : Int32) <<< (nI l &&& 31) = nI (2 * 2 ^ l) := shl (s := 2) (by omega) (by omega)
  have hpos := Nat.two_pow_pos l
  obtain ⟨q2, h1, h2⟩ := run_go (step := sX8_smallest_55 (nI n) (nI l) w) (2 * 2 ^ l - 1) (fun i q => q.1 = nI (cf n l (bn l (i + 1))).1 ∧ q.2.1 = nI (cf n l (bn l (i + 1))).2 ∧ q.2.2.1 = nI (i + 1) ∧ bn l (i + 1) ≤ Bn l) (by
    rintro i ⟨x, y, z, f⟩ hi ⟨rfl, rfl, rfl, hbn⟩
    show ∃ q2, bX8_smallest_55 (nI n) (nI l) w (nI (cf n l (bn l (i + 1))).1) (nI (cf n l (bn l (i + 1))).2) (nI (i + 1)) f = _ ∧ _
    have hs : i + 1 < 2 ^ (l + 1) := by rw [Nat.pow_succ]; omega
    have hok := cf_ok n l (bn l (i + 1))
    have hf1 := cf1_le n l (bn l (i + 1))
    have ho := own_le (i + 1) l
    obtain ⟨sm2, hown⟩ := own8 hs (by omega) f
    unfold bX8_smallest_55 bX8_smallest_109 bX8_smallest_125 bX8_smallest_127
    simp only [lt_]
    rw [h2l, brF (nI_ge (by omega) (by omega)), bd_eq (isOf8 hn hl hs), nI_1]
    cases hodt : odt l (i + 1) with
    | false =>
      rw [Bool.and_false, if_neg (by decide), brT rfl]
      refine ⟨_, rfl, ?_⟩
      rw [bn_no hs (by omega) hodt]
      exact ⟨rfl, rfl, rfl, hbn⟩
    | true =>
      obtain ⟨y1, y2, y3⟩ := bn_yes hs (by omega) hodt
      rw [Bool.and_true]
      have es : cf n l (bn l (i + 1) + 1) = if ofS n (stw l (bn l (i + 1))) then (if own (stw l (bn l (i + 1))) l < (cf n l (bn l (i + 1))).1 then (own (stw l (bn l (i + 1))) l, 1) else if own (stw l (bn l (i + 1))) l = (cf n l (bn l (i + 1))).1 then ((cf n l (bn l (i + 1))).1, (cf n l (bn l (i + 1))).2 + 1) else cf n l (bn l (i + 1))) else cf n l (bn l (i + 1)) := rfl
      rw [y1] at es
      by_cases hv : ofS n (i + 1) = true
      · rw [if_pos hv, brF (by decide), bd_eq hown]
        rw [if_pos hv] at es
        by_cases c1 : own (i + 1) l < (cf n l (bn l (i + 1))).1
        · rw [if_pos c1] at es
          rw [brF (show ¬ nI (cf n l (bn l (i + 1))).1 ≤ nI (own (i + 1) l) from nI_ge c1 (by omega)), brF (show ¬ nI (cf n l (bn l (i + 1))).1 ≤ nI (own (i + 1) l) from nI_ge c1 (by omega))]
          refine ⟨_, rfl, ?_⟩
          rw [y2, es]
          exact ⟨rfl, rfl, rfl, by omega⟩
        · rw [if_neg c1] at es
          have hle : nI (cf n l (bn l (i + 1))).1 ≤ nI (own (i + 1) l) := nI_le (by omega) (by omega)
          rw [brT hle, brT hle, brT hle]
          by_cases c2 : own (i + 1) l = (cf n l (bn l (i + 1))).1
          · rw [if_pos c2] at es
            rw [brT (show nI (own (i + 1) l) = nI (cf n l (bn l (i + 1))).1 by rw [c2])]
            refine ⟨_, rfl, ?_⟩
            rw [y2, es]
            exact ⟨rfl, nI_1 _, rfl, by omega⟩
          · rw [if_neg c2] at es
            rw [brF (show ¬ nI (own (i + 1) l) = nI (cf n l (bn l (i + 1))).1 from fun z => c2 ((nI_eq (by omega) (by omega)).mp z))]
            refine ⟨_, rfl, ?_⟩
            rw [y2, es]
            exact ⟨rfl, rfl, rfl, by omega⟩
      · rw [if_neg hv, brT rfl]
        rw [if_neg hv] at es
        refine ⟨_, rfl, ?_⟩
        rw [y2, es]
        exact ⟨rfl, rfl, rfl, by omega⟩) (2 * 2 ^ l - 1) 0 ((1000 : Int32), (0 : Int32), (1 : Int32), sm) (by omega) ⟨by rw [bn_1]; rfl, by rw [bn_1]; rfl, rfl, by rw [bn_1]; omega⟩
  obtain ⟨x, y, z, f⟩ := q2
  obtain ⟨r1, r2, r3, _⟩ := h2
  rw [show 2 * 2 ^ l - 1 + 1 = 2 * 2 ^ l by omega, bn_end] at r1 r2
  rw [show 2 * 2 ^ l - 1 + 1 = 2 * 2 ^ l by omega] at r3
  cases r1
  cases r2
  cases r3
  exact ⟨f, h1⟩
theorem bn_mono {l s t : Nat} (h : s ≤ t) : bn l s ≤ bn l t := by
  unfold bn
  by_cases e : l = 0
  · rw [if_pos e, if_pos e]; omega
  · rw [if_neg e, if_neg e]; omega
theorem sm8_at {n l i b f : Nat} (h : tld n l) (hf : f ≤ 1000) (hi : i ≤ 8192) (hb : b < Bn l) (hm : mn n l f b = true) (hc : fb_ct (mn n l f) b = i) (sm : Nat → Int32) : ∃ sm2, run (sX8_smallest_173 (nI n) (nI l) (nI f)) (nI i, (1 : Int32), sm) = some (nI (stw l b), sm2) := by
  have hl : l < 15 := by unfold tld at h; omega
  have hn : n < 9 := by unfold tld at h; omega
  obtain ⟨b1, b2, b3⟩ := betweens7 l hl
  obtain ⟨c1, c2, c3⟩ := bn_stw hb
  have hmb := hm
  unfold mn at hm
  rw [Bool.and_eq_true, decide_eq_true_iff] at hm
  have key := run_inv0 (step := sX8_smallest_173 (nI n) (nI l) (nI f)) (stw l b - 1) (fun j q => q.1 = nI (i - fb_ct (mn n l f) (bn l (j + 1))) ∧ q.2.1 = nI (j + 1)) (fun t => ∃ sm2, t = (nI (stw l b), sm2)) (by
    rintro j ⟨x, y, g⟩ hj ⟨rfl, rfl⟩
    show (∃ q2, bX8_smallest_173 (nI n) (nI l) (nI f) (nI (i - fb_ct (mn n l f) (bn l (j + 1)))) (nI (j + 1)) g = _ ∧ _) ∨ _
    have hs : j + 1 < 2 ^ (l + 1) := by rw [Nat.pow_succ]; omega
    have ho := own_le (j + 1) l
    obtain ⟨g1, hg1⟩ := own8 hs (by omega) g
    obtain ⟨g2, hg2⟩ := own8 hs (by omega) g1
    have hmono : fb_ct (mn n l f) (bn l (j + 1)) ≤ i := by
      rw [← hc]
      refine fb_ct_mono _ ?_
      rw [← c1]
      exact bn_mono (by omega)
    -- what the row is at j + 1, and its count
    have hP : ∃ P : Bool, ((ofS n (j + 1) && odt l (j + 1)) && decide (own (j + 1) l = f)) = P ∧ fb_ct (mn n l f) (bn l (j + 1 + 1)) = fb_ct (mn n l f) (bn l (j + 1)) + (if P then 1 else 0) ∧ (P = true → fb_ct (mn n l f) (bn l (j + 1)) < i) := by
      refine ⟨_, rfl, ?_, ?_⟩
      · cases hodt : odt l (j + 1) with
        | false => rw [bn_no hs (by omega) hodt, Bool.and_false, Bool.false_and]; rfl
        | true =>
          obtain ⟨y1, y2, y3⟩ := bn_yes hs (by omega) hodt
          rw [y2, fb_ct_succ, Bool.and_true]
          unfold mn
          rw [y1]
      · intro hp
        rw [Bool.and_eq_true, Bool.and_eq_true, decide_eq_true_iff] at hp
        obtain ⟨y1, y2, y3⟩ := bn_yes hs (by omega) hp.1.2
        have hmj : mn n l f (bn l (j + 1)) = true := by
          unfold mn
          rw [y1, hp.1.1, hp.2]; simp
        have hne : bn l (j + 1) ≠ b := by
          intro e
          rw [e] at y1
          omega
        have hle : bn l (j + 1) ≤ b := by rw [← c1]; exact bn_mono (by omega)
        rw [← hc]
        exact ct_lt (by omega) hmj
    obtain ⟨P, p1, p2, p3⟩ := hP
    have e200 : ∀ (g : Nat → Int32) {g2 : Nat → Int32}, fX8_ownSums (nI (j + 1)) (nI l) g = some (nI (own (j + 1) l), g2) → ∃ g3, bX8_smallest_200 (nI n) (nI l) (nI f) (nI (i - fb_ct (mn n l f) (bn l (j + 1)))) (nI (j + 1)) g = some (.inl (nI (i - fb_ct (mn n l f) (bn l (j + 1 + 1))), nI (j + 1 + 1), g3)) := by
      intro g g2 hg
      unfold bX8_smallest_200 bX8_smallest_228 bX8_smallest_229
      simp only [lt_]
      rw [bd_eq (isOf8 hn hl hs), bd_eq hg, nI_1, p2]
      by_cases hv : (ofS n (j + 1) && odt l (j + 1)) = true
      · rw [if_pos hv, brF (by decide)]
        rw [hv, Bool.true_and] at p1
        by_cases hO : own (j + 1) l = f
        · rw [brT (show nI (own (j + 1) l) = nI f by rw [hO])]
          rw [decide_eq_true hO] at p1
          have := p3 p1.symm
          subst p1
          rw [if_pos rfl, show (1 : Int32) = nI 1 from rfl, pk_sub (by omega)]
          refine ⟨g2, ?_⟩
          congr 4
        · rw [brF (show ¬ nI (own (j + 1) l) = nI f from fun z => hO ((nI_eq (by omega) (by omega)).mp z))]
          rw [decide_eq_false hO] at p1
          subst p1
          rw [if_neg (by decide), Int32.sub_zero]
          exact ⟨g2, rfl⟩
      · rw [if_neg hv, brT rfl]
        rw [show (ofS n (j + 1) && odt l (j + 1)) = false by simpa using hv, Bool.false_and] at p1
        subst p1
        rw [if_neg (by decide), Int32.sub_zero]
        exact ⟨g, rfl⟩
    left
    unfold bX8_smallest_173
    by_cases h0 : fb_ct (mn n l f) (bn l (j + 1)) < i
    · obtain ⟨g3, hg3⟩ := e200 g hg1
      rw [brT (show (0 : Int32) < nI _ from nI_lt (a := 0) (by omega) (by omega)), hg3]
      exact ⟨_, rfl, rfl, rfl⟩
    · rw [brF (show ¬ (0 : Int32) < nI _ by rw [show i - fb_ct (mn n l f) (bn l (j + 1)) = 0 by omega]; decide), bd_eq (isOf8 hn hl hs)]
      by_cases hv : (ofS n (j + 1) && odt l (j + 1)) = true
      · rw [if_pos hv, brF (by decide), bd_eq hg1]
        rw [hv, Bool.true_and] at p1
        by_cases hO : own (j + 1) l = f
        · rw [decide_eq_true hO] at p1
          exact absurd (p3 p1.symm) h0
        · rw [brF (show ¬ nI (own (j + 1) l) = nI f from fun z => hO ((nI_eq (by omega) (by omega)).mp z))]
          obtain ⟨g3, hg3⟩ := e200 g1 hg2
          rw [hg3]
          exact ⟨_, rfl, rfl, rfl⟩
      · rw [if_neg hv, brT rfl]
        obtain ⟨g3, hg3⟩ := e200 g hg1
        rw [hg3]
        exact ⟨_, rfl, rfl, rfl⟩) (by
    rintro ⟨x, y, g⟩ ⟨rfl, rfl⟩
    show ∃ t, bX8_smallest_173 (nI n) (nI l) (nI f) (nI (i - fb_ct (mn n l f) (bn l (stw l b - 1 + 1)))) (nI (stw l b - 1 + 1)) g = _ ∧ _
    have hs : stw l b < 2 ^ (l + 1) := by rw [Nat.pow_succ]; omega
    obtain ⟨g1, hg1⟩ := own8 hs (by omega) g
    rw [show stw l b - 1 + 1 = stw l b by omega, c1, hc, Nat.sub_self]
    unfold bX8_smallest_173
    rw [brF (show ¬ (0 : Int32) < nI 0 by decide), bd_eq (isOf8 hn hl hs), hm.1, stw_odt hb, Bool.and_true, if_pos rfl, brF (by decide), bd_eq hg1, brT (show nI (own (stw l b) l) = nI f by rw [hm.2])]
    exact ⟨_, rfl, g1, rfl⟩) (q := (nI i, (1 : Int32), sm)) ⟨by rw [bn_1]; rfl, rfl⟩
  obtain ⟨t, h1, sm2, rfl⟩ := key
  exact ⟨sm2, h1⟩
