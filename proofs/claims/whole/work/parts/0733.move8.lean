theorem mv8_reset (x1 x3 x4 x5 um : Int32) (nw mb fi sm : Nat → Int32) : ∃ sm2, (∀ t, run (sX8_move_82 x1 x3 x4 x5 um nw mb fi) ((0 : Int32), sm2) = some t → run (sX8_move_57 x1 x3 x4 x5 um nw mb fi) ((0 : Int32), sm) = some t) ∧ ∀ v, v < 241 → sm2 v = 0 := by
  obtain ⟨q2, h1, h2, h3⟩ := run_go (step := sX8_move_57 x1 x3 x4 x5 um nw mb fi) 241 (fun i q => q.1 = nI i ∧ ∀ v, v < i → q.2 v = 0) (by
    rintro i ⟨p, f⟩ hi ⟨rfl, hf⟩
    show ∃ q2, bX8_move_57 x1 x3 x4 x5 um nw mb fi (nI i) f = _ ∧ _
    unfold bX8_move_57
    simp only [lt_]
    rw [brF (show ¬ (241 : Int32) ≤ nI i from nI_ge (b := 241) (by omega) (by omega)), nI_clamp (by omega), gd_eq ⟨nI_pos (by omega), by omega⟩]
    refine ⟨_, rfl, nI_1 i, fun v hv => ?_⟩
    show upd f i 0 v = 0
    by_cases e : v = i
    · subst e; exact pk_us
    · rw [pk_un e]; exact hf v (by omega)) 241 0 ((0 : Int32), sm) rfl ⟨rfl, fun v hv => absurd hv (by omega)⟩
  obtain ⟨p, f⟩ := q2
  cases h2
  refine ⟨f, fun t e => ?_, h3⟩
  rw [h1]
  refine run_inr ?_
  show bX8_move_57 x1 x3 x4 x5 um nw mb fi (nI 241) f = _
  unfold bX8_move_57
  rw [brT (by decide), e]; rfl
theorem mv8_ok {A : Nat → Bool} {x1 d v um : Int32} {nw mb fi sm : Nat → Int32} (hfi : ∀ a, a < 41 → A a = true → fi (fb_ct A a) = nI a) (hsm : ∀ v, v < 241 → sm v = 0) (hg : ∀ o, o < 41 → A o = true → ∃ y, y < 41 ∧ d * nI o + v = nI y) :
    ∃ sm2, run (sX8_move_82 x1 d v (nI (fb_ct A 41)) um nw mb fi) ((0 : Int32), sm) = run (sX8_move_82 x1 d v (nI (fb_ct A 41)) um nw mb fi) (nI (fb_ct A 41), sm2) ∧ ∀ y, y < 41 → is01 (sm2 y) (∃ o, o < 41 ∧ A o = true ∧ d * nI o + v = nI y) := by
  have hcA := fb_ct_le A 41
  obtain ⟨q2, h1, h2, h3⟩ := run_go (step := sX8_move_82 x1 d v (nI (fb_ct A 41)) um nw mb fi) (fb_ct A 41) (fun i q => q.1 = nI i ∧ ∀ y, y < 41 → is01 (q.2 y) (∃ o, o < 41 ∧ A o = true ∧ fb_ct A o < i ∧ d * nI o + v = nI y)) (by
    rintro i ⟨p, f⟩ hi ⟨rfl, hf⟩
    show ∃ q2, bX8_move_82 x1 d v (nI (fb_ct A 41)) um nw mb fi (nI i) f = _ ∧ _
    obtain ⟨o, o1, o2, o3⟩ := fb_ct_kth hi
    obtain ⟨y, hy, e⟩ := hg o o1 o2
    unfold bX8_move_82
    simp only [lt_]
    rw [brF (nI_ge hi (by omega)), nI_clamp (by omega), gd_eq ⟨nI_pos (by omega), by omega⟩, ← o3, hfi o o1 o2, e, bd_eq (in40_yes hy), brF (by decide), nI_clamp (by omega), gd_eq ⟨nI_pos (by omega), by omega⟩]
    refine ⟨_, rfl, nI_1 _, fun z hz => ?_⟩
    show is01 (upd f y 1 z) _
    by_cases ez : z = y
    · subst ez
      rw [pk_us]
      exact is01.yes ⟨o, o1, o2, by omega, e⟩
    · rw [pk_un ez]
      refine (hf z hz).congr ⟨?_, ?_⟩
      · rintro ⟨c, c1, c2, c3, c4⟩
        exact ⟨c, c1, c2, by omega, c4⟩
      · rintro ⟨c, c1, c2, c3, c4⟩
        refine ⟨c, c1, c2, ?_, c4⟩
        rcases Nat.lt_or_ge (fb_ct A c) (fb_ct A o) with l | l
        · omega
        · have := fb_ct_kth_one c2 o2 (by omega)
          subst this
          rw [e] at c4
          exact absurd ((nI_eq (by omega) (by omega)).mp c4).symm ez) (fb_ct A 41) 0 ((0 : Int32), sm) (by omega) ⟨rfl, fun y hy => by
      show is01 (sm y) _
      rw [hsm y (by omega)]
      refine is01.no ?_
      rintro ⟨c, _, _, c3, _⟩
      omega⟩
  obtain ⟨p, f⟩ := q2
  cases h2
  refine ⟨f, h1, fun y hy => (h3 y hy).congr ⟨?_, ?_⟩⟩
  · rintro ⟨c, c1, c2, c3, c4⟩
    exact ⟨c, c1, c2, c4⟩
  · rintro ⟨c, c1, c2, c4⟩
    exact ⟨c, c1, c2, ct_lt c1 c2, c4⟩
theorem mv8_no {A : Nat → Bool} {x1 d v um : Int32} {nw mb fi sm : Nat → Int32} (hfi : ∀ a, a < 41 → A a = true → fi (fb_ct A a) = nI a) {o : Nat} (ho : o < 41) (hb : A o = true) (hn : d * nI o + v < 0 ∨ nI 41 ≤ d * nI o + v) :
    ∃ sm2, run (sX8_move_82 x1 d v (nI (fb_ct A 41)) um nw mb fi) ((0 : Int32), sm) = some (-2, um, nw, mb, fi, sm2) := by
  have hcA := fb_ct_le A 41
  have hlt := ct_lt ho hb
  have stp : ∀ i f, i < fb_ct A 41 → (∃ q2, sX8_move_82 x1 d v (nI (fb_ct A 41)) um nw mb fi (nI i, f) = some (.inl q2) ∧ q2.1 = nI (i + 1) ∧ ¬ i = fb_ct A o) ∨ (∃ t, sX8_move_82 x1 d v (nI (fb_ct A 41)) um nw mb fi (nI i, f) = some (.inr t) ∧ ∃ sm2, t = (-2, um, nw, mb, fi, sm2)) := by
    intro i f hi
    obtain ⟨c, c1, c2, c3⟩ := fb_ct_kth hi
    show (∃ q2, bX8_move_82 x1 d v (nI (fb_ct A 41)) um nw mb fi (nI i) f = _ ∧ _) ∨ (∃ t, bX8_move_82 x1 d v (nI (fb_ct A 41)) um nw mb fi (nI i) f = _ ∧ _)
    unfold bX8_move_82
    simp only [lt_]
    rw [brF (nI_ge hi (by omega)), nI_clamp (by omega), gd_eq ⟨nI_pos (by omega), by omega⟩, ← c3, hfi c c1 c2]
    rcases num_cases (d * nI c + v) with ⟨y, hy, e⟩ | hn2
    · rw [e, bd_eq (in40_yes hy), brF (by decide), nI_clamp (by omega), gd_eq ⟨nI_pos (by omega), by omega⟩]
      refine Or.inl ⟨_, rfl, nI_1 _, ?_⟩
      intro e2
      have := fb_ct_kth_one c2 hb e2
      subst this
      rw [e] at hn
      rcases hn with hn | hn
      · exact nI_pos (by omega) hn
      · exact nI_ge hy (by omega) hn
    · rw [bd_eq (in40_no hn2), brT rfl]
      exact Or.inr ⟨_, rfl, f, rfl⟩
  have key := run_inv0 (step := sX8_move_82 x1 d v (nI (fb_ct A 41)) um nw mb fi) (fb_ct A o) (fun i q => q.1 = nI i) (fun t => ∃ sm2, t = (-2, um, nw, mb, fi, sm2)) (by
    rintro i ⟨p, f⟩ hi hp
    cases hp
    rcases stp i f (by omega) with ⟨q2, h1, h2, _⟩ | h
    · exact Or.inl ⟨q2, h1, h2⟩
    · exact Or.inr h) (by
    rintro ⟨p, f⟩ hp
    cases hp
    rcases stp _ f hlt with ⟨q2, h1, h2, h3⟩ | h
    · exact absurd rfl h3
    · exact h) (q := ((0 : Int32), sm)) rfl
  obtain ⟨t, h1, sm2, rfl⟩ := key
  exact ⟨sm2, h1⟩

theorem core_move {sl : Nat → Int64} {nw ch : Nat → Int32} {bf : Nat → Int64} {sz um : Int32} {mb : Nat → Int32} (hS : RS sl nw) (hH : RH sl ch bf sz mb um) (q w d v : Int32) (fi sm : Nat → Int32) :
    ∃ r sl2 sz2 ch2 bf2 um2 nw2 mb2 fi2 sm2, fX7_move q w d v sl sz ch bf = some (r, sl2, sz2, ch2, bf2) ∧ fX8_move q w d v um nw mb fi sm = some (r, um2, nw2, mb2, fi2, sm2) ∧ RS sl2 nw2 ∧ RH sl2 ch2 bf2 sz2 mb2 um2 := by
  rcases slot_cases q with ⟨k, hk, rfl⟩ | hq
  · rcases slot_cases w with ⟨a, ha, rfl⟩ | hw
    · by_cases hd : d < 1 ∨ 9 < d
      · refine ⟨-1, sl, sz, ch, bf, um, nw, mb, fi, sm, ?_, ?_, hS, hH⟩
        · unfold fX7_move
          rw [bd_eq (isSlot_in k hk), brF (by decide), bd_eq (isSlot_in a ha), brF (by decide)]
          by_cases h1 : d < 1
          · rw [brT h1]
          · rw [brF h1, brT (hd.resolve_left h1)]
        · unfold fX8_move
          rw [bd_eq (isSlot8_in k hk), brF (by decide), bd_eq (isSlot8_in a ha), brF (by decide), p1, p9, in8_dec, if_pos hd, bd_eq rfl, brT rfl]
      · by_cases hv : v < -40 ∨ 40 < v
        · refine ⟨-1, sl, sz, ch, bf, um, nw, mb, fi, sm, ?_, ?_, hS, hH⟩
          · unfold fX7_move
            rw [bd_eq (isSlot_in k hk), brF (by decide), bd_eq (isSlot_in a ha), brF (by decide), brF (fun z => hd (Or.inl z)), brF (fun z => hd (Or.inr z))]
            by_cases h1 : v < -40
            · rw [brT h1]
            · rw [brF h1, brF (Int32.not_le.mpr (hv.resolve_left h1))]
          · unfold fX8_move
            rw [bd_eq (isSlot8_in k hk), brF (by decide), bd_eq (isSlot8_in a ha), brF (by decide), p1, p9, in8_dec, if_neg hd, bd_eq rfl, brF (by decide), m40, p40, in8_dec, if_pos hv, bd_eq rfl, brT rfl]
        · have e7 : fX7_move (nI k) (nI a) d v sl sz ch bf = run (sX7_move_47 (nI k) (nI a) d v sl sz ch bf) ((0 : Int64), (0 : Int32)) := by
            unfold fX7_move
            rw [bd_eq (isSlot_in k hk), brF (by decide), bd_eq (isSlot_in a ha), brF (by decide), brF (fun z => hd (Or.inl z)), brF (fun z => hd (Or.inr z)), brF (fun z => hv (Or.inl z)), brT (Int32.not_lt.mp (fun z => hv (Or.inr z)))]
          have e8 : fX8_move (nI k) (nI a) d v um nw mb fi sm = run (sX8_move_57 (nI k) d v (nI (cn sl a)) um nw mb (lsF (bi (sl a)) fi 41)) ((0 : Int32), sm) := by
            unfold fX8_move
            rw [bd_eq (isSlot8_in k hk), brF (by decide), bd_eq (isSlot8_in a ha), brF (by decide), p1, p9, in8_dec, if_neg hd, bd_eq rfl, brF (by decide), m40, p40, in8_dec, if_neg hv, bd_eq rfl, brF (by decide), bd_eq (lists8_eq hS ha fi)]
          obtain ⟨sm2, r1, r2⟩ := mv8_reset (nI k) d v (nI (cn sl a)) um nw mb (lsF (bi (sl a)) fi 41) sm
          have hfi : ∀ c, c < 41 → bi (sl a) c = true → lsF (bi (sl a)) fi 41 (fb_ct (bi (sl a)) c) = nI c := fun c hc hA => lsF_at hc hA
          by_cases hg : ∀ o, o < 41 → bi (sl a) o = true → ∃ y, y < 41 ∧ d * nI o + v = nI y
          · obtain ⟨m, m1, m2⟩ := mv7_ok (k := k) (sz := sz) (ch := ch) (bf := bf) ha rfl hg
            obtain ⟨sm3, s1, s2⟩ := mv8_ok (x1 := nI k) (um := um) (nw := nw) (mb := mb) hfi r2 hg
            have hx : ∀ y, 41 ≤ y → bi m y = false := by
              intro y hy
              cases e : bi m y with
              | false => rfl
              | true => have := (m1 y).mp e; omega
            obtain ⟨r, sl2, sz2, ch2, bf2, um2, nw2, mb2, c1, c2, c3, c4⟩ := becomes8 hS hH hk hx (sm := sm3) (fun y hy => (s2 y hy).congr ⟨fun z => (m1 y).mpr ⟨hy, z⟩, fun z => ((m1 y).mp z).2⟩)
            refine ⟨r, sl2, sz2, ch2, bf2, um2, nw2, mb2, lsF (bi (sl a)) fi 41, sm3, ?_, ?_, c3, c4⟩
            · rw [e7, m2]
              refine run_inr ?_
              show bX7_move_47 (nI k) (nI a) d v sl sz ch bf m (nI 41) = _
              unfold bX7_move_47
              rw [brT (by decide), bd_eq c1]
            · rw [e8]
              refine r1 _ ?_
              show run (sX8_move_82 (nI k) d v (nI (fb_ct (bi (sl a)) 41)) um nw mb (lsF (bi (sl a)) fi 41)) ((0 : Int32), sm2) = _
              rw [s1]
              refine run_inr ?_
              show bX8_move_82 (nI k) d v (nI (fb_ct (bi (sl a)) 41)) um nw mb (lsF (bi (sl a)) fi 41) (nI (fb_ct (bi (sl a)) 41)) sm3 = _
              unfold bX8_move_82
              rw [brT (Int32.le_refl _), bd_eq c2]
          · have : ∃ o, o < 41 ∧ bi (sl a) o = true ∧ (d * nI o + v < 0 ∨ nI 41 ≤ d * nI o + v) := by
              refine Classical.byContradiction fun hne => hg fun o h1 h2 => ?_
              rcases num_cases (d * nI o + v) with h | h
              · exact h
              · exact absurd ⟨o, h1, h2, h⟩ hne
            obtain ⟨o, o1, o2, o3⟩ := this
            obtain ⟨sm3, s1⟩ := mv8_no (x1 := nI k) (um := um) (nw := nw) (mb := mb) (sm := sm2) hfi o1 o2 o3
            refine ⟨-2, sl, sz, ch, bf, um, nw, mb, lsF (bi (sl a)) fi 41, sm3, ?_, ?_, hS, hH⟩
            · rw [e7]; exact mv7_no ha rfl o1 o2 o3
            · rw [e8]; exact r1 _ s1
    · refine ⟨-1, sl, sz, ch, bf, um, nw, mb, fi, sm, ?_, ?_, hS, hH⟩
      · unfold fX7_move
        rw [bd_eq (isSlot_in k hk), brF (by decide), bd_eq (isSlot_out hw), brT rfl]
      · unfold fX8_move
        rw [bd_eq (isSlot8_in k hk), brF (by decide), bd_eq (isSlot8_out hw), brT rfl]
  · refine ⟨-1, sl, sz, ch, bf, um, nw, mb, fi, sm, ?_, ?_, hS, hH⟩
    · unfold fX7_move
      rw [bd_eq (isSlot_out hq), brT rfl]
    · unfold fX8_move
      rw [bd_eq (isSlot8_out hq), brT rfl]
