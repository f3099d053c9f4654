theorem read_eq {le mt : Nat → Int32} {n : Nat} {T : Nat → Nat} (h : TX le mt n T) (nums : Int64) (sets : Nat → Int64) (rd : Nat → Int32) (sp0 : Int32) :
    ∃ r m sets2 sp rd2, fX3_read (nI n) nums le sets = some (r, m, sets2) ∧ fX8_fault (nI n) sp0 mt rd = some (r, sp, rd2) ∧ (r = -4 → RS sets2 rd2) := by
  have hn := h.1
  obtain ⟨g2, f1, f2⟩ := fill_run (x := 0) (n := 4) (by omega) sets
  unfold fX3_read fX8_fault
  rw [bd_eq f1]
  obtain ⟨q2, h1, h2, h3⟩ := run_go (step := sX8_fault_2 (nI n) sp0 mt) 164 (fun i q => q.1 = nI i ∧ ∀ v, v < i → q.2 v = 0) (by
    rintro i ⟨p, f⟩ hi ⟨rfl, hf⟩
    show ∃ q2, bX8_fault_2 (nI n) sp0 mt (nI i) f = _ ∧ _
    unfold bX8_fault_2
    simp only [lt_]
    rw [brF (show ¬ (164 : Int32) ≤ nI i from nI_ge (b := 164) hi (by omega)), nI_clamp (by omega), gd_eq ⟨nI_pos (by omega), by omega⟩]
    refine ⟨_, rfl, nI_1 i, fun v hv => ?_⟩
    show upd f i 0 v = 0
    by_cases e : v = i
    · subst e; exact pk_us
    · rw [pk_un e]; exact hf v (by omega)) 164 0 ((0 : Int32), rd) rfl ⟨rfl, fun v hv => absurd hv (by omega)⟩
  obtain ⟨p, f⟩ := q2
  cases h2
  have h3 : ∀ v, v < 164 → f v = 0 := h3
  have hS : RS g2 f := by
    intro k hk
    refine ⟨fun v hv => ?_, fun v hv => ?_⟩
    · rw [h3 _ (by omega), f2 k hk, bi_0]; rfl
    · rw [f2 k hk, bi_0]
  obtain ⟨t, u, e1, e2, e3⟩ := run_two (s1 := sX3_read_10 (nI n) le) (s2 := sX8_fault_27 (nI n) mt) (fun q r => ∃ b, q.1 = nI b ∧ r.1 = nI b ∧ b ≤ 200 ∧ RS q.2.2 r.2) (fun q => 300 - q.1.toNatClampNeg) (fun t u => t.1 = u.1 ∧ (t.1 = -4 → RS t.2.2 u.2.2)) (by
    rintro ⟨x1, m, sets⟩ ⟨y1, rd⟩ ⟨b, rfl, rfl, hb, hS⟩
    show (∃ q2 r2, bX3_read_10 (nI n) le (nI b) m sets = _ ∧ bX8_fault_27 (nI n) mt (nI b) rd = _ ∧ _) ∨ (∃ t u, bX3_read_10 (nI n) le (nI b) m sets = _ ∧ bX8_fault_27 (nI n) mt (nI b) rd = _ ∧ _)
    unfold bX3_read_10 bX8_fault_27
    simp only [lt_]
    have hS : RS sets rd := hS
    by_cases hbn : n ≤ b
    · rw [brT (nI_le hbn (by omega)), brT (nI_le hbn (by omega))]
      exact Or.inr ⟨_, _, rfl, rfl, rfl, fun _ => hS⟩
    · obtain ⟨r, m2, sets2, ok, sp, rd2, i1, i2, i3⟩ := item_eq h hS (p := b) (by omega) m
      have hb4 : ¬ nI b = (-4 : Int32) := by
        intro z
        have := nI_pos (n := b) (by omega)
        rw [z] at this
        exact this (by decide)
      rw [brF (nI_ge (by omega) (by omega)), brF (nI_ge (by omega) (by omega)), bd_eq i1, nI_clamp (by omega), gd_eq ⟨nI_pos (by omega), by omega⟩, nI_1, (h.2.2 b (by omega)).2.2.2, bd_eq i2]
      rcases i3 with ⟨rfl, i3⟩ | ⟨rfl, c, rfl, c1, rfl, c2, c3⟩
      · right
        rw [brF (show ¬ nI b < (-1 : Int32) from fun z => nI_pos (n := b) (by omega) (Int32.lt_trans z (by decide)))]
        rcases i3 with rfl | ⟨rfl, c, rfl, c1, c2⟩
        · rw [brT rfl]
          exact ⟨_, _, rfl, rfl, rfl, fun z => absurd z hb4⟩
        · have htc := h.le c
          rw [brF (show ¬ (1 : Int32) = 0 by decide), bd_eq (letter8 h (by omega)), brF (show ¬ nI (T c) = (59 : Int32) from fun z => c2 ((nI_eq (b := 59) (by omega) (by omega)).mp z))]
          exact ⟨_, _, rfl, rfl, rfl, fun z => absurd z hb4⟩
      · left
        have hc : c < n := h.lt (by omega)
        rw [brT (nI_lt (by omega) (by omega)), brF (show ¬ (1 : Int32) = 0 by decide), bd_eq (letter8 h (by omega)), brT (show nI (T c) = (59 : Int32) by rw [c1]; rfl)]
        refine ⟨_, _, rfl, rfl, ⟨c + 1, rfl, nI_1 c, by omega, c3⟩, ?_⟩
        show 300 - (nI (c + 1)).toNatClampNeg < 300 - b
        rw [nI_clamp (by omega)]
        omega) 301 ((0 : Int32), nums, g2) ((0 : Int32), f) (by
      show 300 - _ < 301
      omega) ⟨0, rfl, rfl, by omega, hS⟩
  obtain ⟨r, m, sets2⟩ := t
  obtain ⟨r2, sp, rd2⟩ := u
  obtain ⟨e4, e5⟩ := e3
  have e4 : r = r2 := e4
  subst e4
  refine ⟨r, m, sets2, sp, rd2, e1, ?_, e5⟩
  rw [h1]
  refine run_inr ?_
  show bX8_fault_2 (nI n) sp0 mt (nI 164) f = _
  unfold bX8_fault_2
  rw [brT (by decide), e2]; rfl
theorem core_fault {le mt : Nat → Int32} {ln ml_ : Int32} (h : RT le ln ml_ mt) (nums : Int64) (sets : Nat → Int64) (rd : Nat → Int32) (sp0 : Int32) : ∃ r m sets2 sp rd2, fX7_fault ln nums le sets = some (r, m, sets2) ∧ fX8_fault ml_ sp0 mt rd = some (r, sp, rd2) := by
  obtain ⟨n, T, rfl, rfl, hT⟩ := h.tx
  obtain ⟨r, m, sets2, sp, rd2, h1, h2, _⟩ := read_eq hT nums sets rd sp0
  refine ⟨r, m, sets2, sp, rd2, ?_, h2⟩
  unfold fX7_fault
  rw [bd_eq h1]
theorem core_lay {le mt : Nat → Int32} {ln ml_ : Int32} (h : RT le ln ml_ mt) {sl : Nat → Int64} {nw ch : Nat → Int32} {bf : Nat → Int64} {sz um : Int32} {mb : Nat → Int32} (hS : RS sl nw) (hH : RH sl ch bf sz mb um) (nums : Int64) (sets : Nat → Int64) (rd : Nat → Int32) (sp0 : Int32) :
    ∃ r sl2 m sets2 sz2 um2 sp nw2 rd2, fX7_lay sl ln nums le sets sz = some (r, sl2, m, sets2, sz2) ∧ fX8_lay ml_ um sp0 mt nw rd = some (r, um2, sp, nw2, rd2) ∧ RS sl2 nw2 ∧ RH sl2 ch bf sz2 mb um2 := by
  obtain ⟨n, T, rfl, rfl, hT⟩ := h.tx
  obtain ⟨r, m, sets2, sp, rd2, h1, h2, h3⟩ := read_eq hT nums sets rd sp0
  unfold fX7_lay fX8_lay
  rw [bd_eq h1, bd_eq h2]
  by_cases e : r = -4
  · have hR := h3 e
    rw [brT e, brT e]
    have k7 := run_go (step := sX7_lay_17 (nI n) m le sets2 sz) 4 (fun i q => q.1 = nI i ∧ ∀ k, k < i → q.2 k = sets2 k) (by
      rintro i ⟨p, f⟩ hi ⟨rfl, hf⟩
      show ∃ q2, bX7_lay_17 (nI n) m le sets2 sz (nI i) f = _ ∧ _
      unfold bX7_lay_17 fX3_told
      simp only [lt_]
      rw [brF (show ¬ (4 : Int32) ≤ nI i from nI_ge (b := 4) hi (by omega)), bd_eq (isSlot_in i hi), brF (by decide), cl4 hi, g4 hi, bd_eq rfl, g4 hi]
      refine ⟨_, rfl, nI_1 i, fun v hv => ?_⟩
      show vp_updL f i (sets2 i) v = sets2 v
      by_cases e : v = i
      · subst e; exact pk_uLs
      · rw [pk_uLn e]; exact hf v (by omega)) 4 0 ((0 : Int32), sl) rfl ⟨rfl, fun v hv => absurd hv (by omega)⟩
    have k8 := run_go (step := sX8_lay_14 (nI n) um sp mt rd2) 164 (fun i q => q.1 = nI i ∧ ∀ k, k < i → q.2 k = rd2 k) (by
      rintro i ⟨p, f⟩ hi ⟨rfl, hf⟩
      show ∃ q2, bX8_lay_14 (nI n) um sp mt rd2 (nI i) f = _ ∧ _
      unfold bX8_lay_14
      simp only [lt_]
      rw [brF (show ¬ (164 : Int32) ≤ nI i from nI_ge (b := 164) hi (by omega)), nI_clamp (by omega), gd_eq ⟨nI_pos (by omega), by omega⟩, gd_eq ⟨nI_pos (by omega), by omega⟩, nar_z (hR.bz hi)]
      refine ⟨_, rfl, nI_1 i, fun v hv => ?_⟩
      show upd f i (rd2 i) v = rd2 v
      by_cases e : v = i
      · subst e; exact pk_us
      · rw [pk_un e]; exact hf v (by omega)) 164 0 ((0 : Int32), nw) rfl ⟨rfl, fun v hv => absurd hv (by omega)⟩
    obtain ⟨⟨p7, f7⟩, a1, a2, a3⟩ := k7
    obtain ⟨⟨p8, f8⟩, b1, b2, b3⟩ := k8
    cases a2
    cases b2
    have a3 : ∀ k, k < 4 → f7 k = sets2 k := a3
    have b3 : ∀ k, k < 164 → f8 k = rd2 k := b3
    have hR2 : RS f7 f8 := hR.congr a3 b3
    refine ⟨nI (us f7), f7, m, sets2, 0, 0, sp, f8, rd2, ?_, ?_, hR2, 0, by omega, rfl, rfl, fun _ => f7, fun _ _ => rfl, fun j hj => absurd hj (by omega)⟩
    · rw [a1]
      refine run_inr ?_
      show bX7_lay_17 (nI n) m le sets2 sz (nI 4) f7 = _
      unfold bX7_lay_17 fX1_clear
      rw [brT (by decide), bd_eq rfl, bd_eq (slots7_eq hR2)]
    · rw [b1]
      refine run_inr ?_
      show bX8_lay_14 (nI n) um sp mt rd2 (nI 164) f8 = _
      unfold bX8_lay_14
      rw [brT (by decide), bd_eq (slots8_eq hR2)]
  · rw [brF e, brF e]
    exact ⟨_, _, _, _, _, _, _, _, _, rfl, rfl, hS, hH⟩
