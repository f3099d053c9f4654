theorem it_reset (x1 ln sp : Int32) (mt rd : Nat → Int32) {k : Nat} (hk : k < 4) : ∃ rd2, (∀ t, run (sX8_item_58 x1 (nI k) ln mt) ((-1 : Int32), sp, rd2) = some t → run (sX8_item_32 x1 (nI k) ln sp mt) ((0 : Int32), rd) = some t) ∧ NR k rd 0 rd2 := by
  obtain ⟨q2, h1, h2, h3, h4⟩ := run_go (step := sX8_item_32 x1 (nI k) ln sp mt) 41 (fun i q => q.1 = nI i ∧ (∀ v, v < i → q.2 (41 * k + v) = 0) ∧ ∀ j, ¬ (41 * k ≤ j ∧ j < 41 * k + 41) → q.2 j = rd j) (by
    rintro i ⟨p, f⟩ hi ⟨rfl, hf, hg⟩
    show ∃ q2, bX8_item_32 x1 (nI k) ln sp mt (nI i) f = _ ∧ _
    unfold bX8_item_32
    simp only [lt_]
    rw [brF (show ¬ (41 : Int32) ≤ nI i from nI_ge (b := 41) hi (by omega)), show (41 : Int32) = nI 41 from rfl, pk_mul, nI_add, nI_clamp (by omega), gd_eq ⟨nI_pos (by omega), by omega⟩]
    refine ⟨_, rfl, nI_1 i, fun v hv => ?_, fun j hj => ?_⟩
    · show upd f (41 * k + i) 0 (41 * k + v) = 0
      by_cases e : v = i
      · subst e; exact pk_us
      · rw [pk_un (by omega)]; exact hf v (by omega)
    · show upd f (41 * k + i) 0 j = rd j
      rw [pk_un (by omega)]; exact hg j hj) 41 0 ((0 : Int32), rd) rfl ⟨rfl, fun v hv => absurd hv (by omega), fun _ _ => rfl⟩
  obtain ⟨p, f⟩ := q2
  cases h2
  refine ⟨f, fun t e => ?_, fun v _ => bi_0 v, fun v hv => ?_, h4⟩
  · rw [h1]
    refine run_inr ?_
    show bX8_item_32 x1 (nI k) ln sp mt (nI 41) f = _
    unfold bX8_item_32
    rw [brT (by decide), e]; rfl
  · have e := h3 v hv
    have e : f (41 * k + v) = 0 := e
    rw [e, bi_0]
    exact is01.no (by decide)
theorem NR.rs {sl : Nat → Int64} {rd0 rd : Nat → Int32} {k : Nat} {m : Int64} (h : RS sl rd0) (hk : k < 4) (hN : NR k rd0 m rd) : RS (vp_updL sl k m) rd := by
  intro j hj
  by_cases e : j = k
  · subst e
    rw [pk_uLs]
    exact ⟨fun v hv => (hN.2.1 v hv).eq, hN.1⟩
  · rw [pk_uLn e]
    refine ⟨fun v hv => ?_, (h j hj).2⟩
    rw [hN.2.2 _ (by omega)]
    exact (h j hj).1 v hv
theorem item_eq {le mt : Nat → Int32} {n : Nat} {T : Nat → Nat} (h : TX le mt n T) {sets : Nat → Int64} {rd : Nat → Int32} (hS : RS sets rd) {p : Nat} (hp : p < n) (nums : Int64) :
    ∃ r m sets2 ok sp rd2, fX3_readItem (nI p) (nI n) nums le sets = some (r, m, sets2) ∧ fX8_item (nI (T p)) (nI n) (nI (p + 1)) mt rd = some (ok, sp, rd2) ∧ ((r = -1 ∧ (ok = 0 ∨ (ok = 1 ∧ ∃ b, sp = nI b ∧ b ≤ n + 4 ∧ T b ≠ 59))) ∨ (ok = 1 ∧ ∃ b, sp = nI b ∧ T b = 59 ∧ r = nI (b + 1) ∧ p < b ∧ RS sets2 rd2)) := by
  have hn := h.1
  have ht := h.le p
  have hf := figs_le (T := T) (p + 1)
  have hv := valu_le (T := T) (p + 1)
  have e115 : nI (T p) = 115 ↔ T p = 115 := nI_eq (b := 115) (by omega) (by omega)
  have e101 : nI (T p) = 101 ↔ T p = 101 := nI_eq (b := 101) (by omega) (by omega)
  have eR : fX3_readItem (nI p) (nI n) nums le sets = br (nI (T p) = 115) (bX3_readItem_26 (nI p) (nI (T p)) (nI (figs T (p + 1))) (nI n) nums le sets) (br (nI (T p) = 101) (bX3_readItem_26 (nI p) (nI (T p)) (nI (figs T (p + 1))) (nI n) nums le sets) (some (-1, nums, sets))) := by
    unfold fX3_readItem
    rw [bd_eq (letter7 h (by omega)), nI_1, bd_eq (figures7 h (by omega))]
  have e12 : bX8_item_12 (nI (T p)) (nI n) (nI (p + 1)) mt rd = bX8_item_22 (nI (T p)) (if 0 < figs T (p + 1) ∧ valu T (p + 1) ≤ 3 then nI (valu T (p + 1)) else -1) (nI n) (nI (p + 1 + figs T (p + 1))) mt rd := by
    unfold bX8_item_12
    rw [show fX8_number 0 3 (nI n) (nI (p + 1)) mt = _ from number8 h (i := p + 1) (lo := 0) (hi_ := 3) (by omega) (by omega) (by omega), bd_eq rfl]
    show bX8_item_22 _ (if 0 < figs T (p + 1) ∧ 0 ≤ valu T (p + 1) ∧ valu T (p + 1) ≤ 3 then nI (valu T (p + 1)) else -1) _ _ _ _ = _
    simp only [Nat.zero_le, true_and]
  have bad22 : ∀ sp, bX8_item_22 (nI (T p)) (-1) (nI n) sp mt rd = some (0, sp, rd) := by
    intro sp
    unfold bX8_item_22
    rw [brT rfl, gd_eq (Or.inl rfl)]
  have e68 : ∀ (k b : Nat) (m : Int64), k < 4 → b ≤ n + 4 → bX3_readItem_68 (nI k) (nI b) (nI n) m le sets = some (if T b = 59 then (nI (b + 1), m, vp_updL sets k m) else (-1, m, sets)) := by
    intro k b m hk hb
    have htb := h.le b
    unfold bX3_readItem_68
    simp only [lt_]
    rw [bd_eq (isSlot_in k hk), brF (by decide), bd_eq (letter7 h (by omega)), cl4 hk, g4 hk, nI_1]
    by_cases e : T b = 59
    · rw [if_pos e, brT (show nI (T b) = (59 : Int32) by rw [e]; rfl)]
    · rw [if_neg e, brF (show ¬ nI (T b) = (59 : Int32) from fun z => e ((nI_eq (b := 59) (by omega) (by omega)).mp z))]
  have hm1 : ∀ k, k < 2 ^ 31 → ¬ nI k = (-1 : Int32) := by
    intro k hk z
    have := nI_pos hk
    rw [z] at this
    exact this (by decide)
  -- a slot told, numbers m ending at b
  by_cases hk : T p = 115 ∨ T p = 101
  · have eR2 : fX3_readItem (nI p) (nI n) nums le sets = bX3_readItem_26 (nI p) (nI (T p)) (nI (figs T (p + 1))) (nI n) nums le sets := by
      rw [eR]
      by_cases e : T p = 115
      · rw [brT (e115.mpr e)]
      · rw [brF (fun z => e (e115.mp z)), brT (e101.mpr (hk.resolve_left e))]
    have eI2 : fX8_item (nI (T p)) (nI n) (nI (p + 1)) mt rd = bX8_item_12 (nI (T p)) (nI n) (nI (p + 1)) mt rd := by
      unfold fX8_item
      by_cases e : T p = 115
      · rw [brT (e115.mpr e)]
      · rw [brF (fun z => e (e115.mp z)), brT (e101.mpr (hk.resolve_left e))]
    rw [eR2, eI2, e12]
    unfold bX3_readItem_26
    simp only [lt_]
    by_cases hz : figs T (p + 1) = 0
    · rw [brT (show nI (figs T (p + 1)) = 0 by rw [hz]; rfl), if_neg (by omega), bad22]
      exact ⟨_, _, _, _, _, _, rfl, rfl, Or.inl ⟨rfl, Or.inl rfl⟩⟩
    · rw [brF (nI_ne0 (by omega) (by omega)), nI_1, bd_eq (value7 h (by omega)), nI_add]
      by_cases hs : valu T (p + 1) ≤ 3
      · -- a slot
        rw [if_pos (by omega)]
        have hks : valu T (p + 1) < 4 := by omega
        obtain ⟨rd2, z1, z2⟩ := it_reset (nI (T p)) (nI n) (nI (p + 1 + figs T (p + 1))) mt rd hks
        unfold bX8_item_22
        rw [brF (hm1 _ (by omega))]
        by_cases e : T p = 115
        · rw [brT (e115.mpr e)]
          obtain ⟨r, m, ok, sp, rd3, n1, n2, n3⟩ := numbers_eq h hks (p := p + 1 + figs T (p + 1)) (by omega) z2
          rw [bd_eq n1]
          have e2 := z1 (ok, sp, rd3) (by rw [e115.mpr e]; exact n2)
          rw [e2]
          rcases n3 with ⟨rfl, rfl⟩ | ⟨rfl, b, rfl, rfl, b1, b2, b3⟩
          · unfold bX3_readItem_68
            have : fX3_letterAt (-1) (nI n) le = some 0 := by
              unfold fX3_letterAt bX3_letterAt_28
              rw [brT (by decide)]
            rw [bd_eq (isSlot_in _ hks), brF (by decide), bd_eq this, brF (by decide)]
            exact ⟨_, _, _, _, _, _, rfl, rfl, Or.inl ⟨rfl, Or.inl rfl⟩⟩
          · rw [e68 _ b m hks b2]
            by_cases e59 : T b = 59
            · rw [if_pos e59]
              exact ⟨_, _, _, _, _, _, rfl, rfl, Or.inr ⟨rfl, b, rfl, e59, rfl, by omega, NR.rs hS hks b3⟩⟩
            · rw [if_neg e59]
              exact ⟨_, _, _, _, _, _, rfl, rfl, Or.inl ⟨rfl, Or.inr ⟨rfl, b, rfl, b2, e59⟩⟩⟩
        · rw [brF (fun z => e (e115.mp z))]
          have e58 : run (sX8_item_58 (nI (T p)) (nI (valu T (p + 1))) (nI n) mt) ((-1 : Int32), nI (p + 1 + figs T (p + 1)), rd2) = some (1, nI (p + 1 + figs T (p + 1)), rd2) := by
            refine run_inr ?_
            show bX8_item_58 (nI (T p)) (nI (valu T (p + 1))) (nI n) mt (-1) (nI (p + 1 + figs T (p + 1))) rd2 = _
            unfold bX8_item_58
            rw [brF (fun z => e (e115.mp z)), gd_eq (Or.inr rfl)]
          rw [z1 _ e58, e68 _ _ 0 hks (by omega)]
          by_cases e59 : T (p + 1 + figs T (p + 1)) = 59
          · rw [if_pos e59]
            exact ⟨_, _, _, _, _, _, rfl, rfl, Or.inr ⟨rfl, _, rfl, e59, rfl, by omega, NR.rs hS hks z2⟩⟩
          · rw [if_neg e59]
            exact ⟨_, _, _, _, _, _, rfl, rfl, Or.inl ⟨rfl, Or.inr ⟨rfl, _, rfl, by omega, e59⟩⟩⟩
      · rw [if_neg (by omega), bad22]
        have bad68 : ∀ (x : Int32) (m : Int64), bX3_readItem_68 (nI (valu T (p + 1))) x (nI n) m le sets = some (-1, m, sets) := by
          intro x m
          unfold bX3_readItem_68
          rw [bd_eq (isSlot_out (Or.inr (nI_le (by omega) (by omega)))), brT rfl]
        by_cases e : T p = 115
        · obtain ⟨rd2, _, z2⟩ := it_reset (nI (T p)) (nI n) (nI (p + 1 + figs T (p + 1))) mt rd (k := 0) (by omega)
          obtain ⟨r, m, ok, sp, rd3, n1, n2, n3⟩ := numbers_eq h (k := 0) (by omega) (p := p + 1 + figs T (p + 1)) (by omega) z2
          rw [brT (e115.mpr e), bd_eq n1, bad68]
          exact ⟨_, _, _, _, _, _, rfl, rfl, Or.inl ⟨rfl, Or.inl rfl⟩⟩
        · rw [brF (fun z => e (e115.mp z)), bad68]
          exact ⟨_, _, _, _, _, _, rfl, rfl, Or.inl ⟨rfl, Or.inl rfl⟩⟩
  · have n115 : ¬ nI (T p) = 115 := fun z => hk (Or.inl (e115.mp z))
    have n101 : ¬ nI (T p) = 101 := fun z => hk (Or.inr (e101.mp z))
    rw [eR, brF n115, brF n101]
    unfold fX8_item
    rw [brF n115, brF n101, bad22]
    exact ⟨_, _, _, _, _, _, rfl, rfl, Or.inl ⟨rfl, Or.inl rfl⟩⟩
