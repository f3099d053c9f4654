/-- the best part of the first ones, and its sums -/
noncomputable def swl (G : Nat → Nat) : Nat → Nat × Nat
  | 0 => (0, 0)
  | p + 1 => if (swl G p).1 = 0 then (p + 1, G (p + 1)) else if bet (p + 1) (G (p + 1)) (swl G p).1 (swl G p).2 then (p + 1, G (p + 1)) else swl G p
theorem sw_ok {G : Nat → Nat} (hG : ∀ p, G p ≤ 81) : ∀ p, (swl G p).1 ≤ p ∧ (swl G p).2 ≤ 81 ∧ (1 ≤ p → (swl G p).1 ≠ 0) := by
  intro p
  induction p with
  | zero => exact ⟨Nat.le_refl _, Nat.zero_le _, fun h => absurd h (by omega)⟩
  | succ p ih =>
    have e : swl G (p + 1) = if (swl G p).1 = 0 then (p + 1, G (p + 1)) else if bet (p + 1) (G (p + 1)) (swl G p).1 (swl G p).2 then (p + 1, G (p + 1)) else swl G p := rfl
    rw [e]
    by_cases h0 : (swl G p).1 = 0
    · rw [if_pos h0]
      exact ⟨Nat.le_refl _, hG _, fun _ => by show p + 1 ≠ 0; omega⟩
    · rw [if_neg h0]
      by_cases h1 : bet (p + 1) (G (p + 1)) (swl G p).1 (swl G p).2 = true
      · rw [if_pos h1]
        exact ⟨Nat.le_refl _, hG _, fun _ => by show p + 1 ≠ 0; omega⟩
      · rw [if_neg h1]
        exact ⟨by omega, ih.2.1, fun _ => h0⟩
theorem judge7_0 {p g : Nat} (hp : p < 2 ^ 12) (h z : Int32) : fX5_judge (nI p) (nI g) (nI 0) h z = some (nI p, nI g, nI (bs p)) := by
  unfold fX5_judge bX5_judge_51
  simp only [lt_]
  rw [bd_eq (bits7 hp), brT (show nI 0 = 0 from rfl)]
theorem two_n : ∀ n, n < 13 → 2 ^ n ≤ 4096 := by decide
theorem w2_count {A : Nat → Bool} {y lo hi : Int64} (hy : ∀ v, 41 ≤ v → bi y v = false) {p : Nat} (h : ∀ v, v < 128 → w2 lo hi v = sS (pa A 0 p) (bi y) 41 v) : fb_ct (bi lo) 64 + fb_ct (bi hi) 64 = gm A (bi y) p := by
  have e1 : fb_ct (w2 lo hi) (64 + 64) = fb_ct (bi lo) 64 + fb_ct (bi hi) 64 := by
    rw [fb_ct_split, fb_ct_cong (q := bi lo) (fun v hv => by unfold w2; rw [if_pos hv]), fb_ct_cong (p := fun k => w2 lo hi (64 + k)) (q := bi hi) (fun v hv => by unfold w2; rw [if_neg (by omega), Nat.add_sub_cancel_left])]
  rw [← e1, fb_ct_cong (q := sS (pa A 0 p) (bi y) 41) (fun v hv => h v (by omega)), show 64 + 64 = 81 + 47 from rfl, fb_ct_split]
  have e2 : fb_ct (fun k => sS (pa A 0 p) (bi y) 41 (81 + k)) 47 = 0 := fb_ct_zero.mpr (fun k _ => sS_big hy (by omega))
  rw [e2, Nat.add_zero]
  rfl
theorem seek5_run {x y : Int64} (hy : ∀ v, 41 ≤ v → bi y v = false) {nu : Nat → Int32} (hnu : ∀ e, e < 41 → bi x e = true → nu (fb_ct (bi x) e) = nI e) (h1 : 1 ≤ fb_ct (bi x) 41) (h12 : fb_ct (bi x) 41 ≤ 12) (su sz : Int32) {lo hi : Nat → Int64} (hlo : ∀ t, t < 13 → lo t = 0) (hhi : ∀ t, t < 13 → hi t = 0) :
    ∃ lo2 hi2, run (sX5_seek_63 (nI (fb_ct (bi x) 41)) x y nu) ((1 : Int32), (0 : Int32), su, sz, lo, hi) = some (x, y, nI (swl (gm (bi x) (bi y)) (2 ^ (fb_ct (bi x) 41) - 1)).1, nI (swl (gm (bi x) (bi y)) (2 ^ (fb_ct (bi x) 41) - 1)).2, nI (bs (swl (gm (bi x) (bi y)) (2 ^ (fb_ct (bi x) 41) - 1)).1), nu, lo2, hi2) := by
  generalize hn : fb_ct (bi x) 41 = n at *
  have h2n := two_n n (by omega)
  have hpos := Nat.two_pow_pos n
  have hp2 : 2 ≤ 2 ^ n := by
    calc 2 = 2 ^ 1 := rfl
      _ ≤ 2 ^ n := Nat.pow_le_pow_right (by omega) h1
  have hsh : (1 : Int32) <<< (nI n &&& 31) = nI (2 ^ n) := by
    have := shl (s := 1) (i := n) (by omega) (by omega)
    rw [Nat.one_mul] at this
    exact this
  have hG : ∀ p, gm (bi x) (bi y) p ≤ 81 := gm_le _ _
  have key := run_inv0 (step := sX5_seek_63 (nI n) x y nu) (2 ^ n - 1) (fun i q => q.1 = nI (i + 1) ∧ q.2.1 = nI (swl (gm (bi x) (bi y)) i).1 ∧ (1 ≤ i → q.2.2.1 = nI (swl (gm (bi x) (bi y)) i).2 ∧ q.2.2.2.1 = nI (bs (swl (gm (bi x) (bi y)) i).1)) ∧ ∀ t, t ≤ 12 → ∀ v, v < 128 → w2 (q.2.2.2.2.1 t) (q.2.2.2.2.2 t) v = sS (pa (bi x) t i) (bi y) 41 v) (fun t => ∃ lo2 hi2, t = (x, y, nI (swl (gm (bi x) (bi y)) (2 ^ n - 1)).1, nI (swl (gm (bi x) (bi y)) (2 ^ n - 1)).2, nI (bs (swl (gm (bi x) (bi y)) (2 ^ n - 1)).1), nu, lo2, hi2)) (by
    rintro i ⟨x6, bp, bu, bz, lo, hi⟩ hi' ⟨rfl, rfl, hb, hr⟩
    show (∃ q2, bX5_seek_63 (nI n) x y nu (nI (i + 1)) (nI (swl (gm (bi x) (bi y)) i).1) bu bz lo hi = _ ∧ _) ∨ _
    have hb : 1 ≤ i → bu = nI (swl (gm (bi x) (bi y)) i).2 ∧ bz = nI (bs (swl (gm (bi x) (bi y)) i).1) := hb
    obtain ⟨k, hk⟩ := lowN_ex (u := i + 1) (by omega)
    have hkn : k < n := lowN_lt hk (by omega)
    obtain ⟨lo2, hi2, a1, a2⟩ := addUp_eq (A := bi x) hy hnu hk (by omega) (by omega) (lo := lo) (hi := hi) hr
    have hg := w2_count (A := bi x) hy (fun v hv => a2 0 (by omega) v hv)
    have hok := sw_ok hG i
    have z0 : (0 : Int32).toNatClampNeg = 0 := by decide
    unfold bX5_seek_63
    simp only [lt_]
    rw [hsh, brF (nI_ge (by omega) (by omega)), bd_eq (ntz32 (by omega) hk (by omega)), bd_eq a1, gd_eq (by decide), bd_eq (bc_eq _), gd_eq (by decide), bd_eq (bc_eq _), z0, nI_add, hg]
    have es : swl (gm (bi x) (bi y)) (i + 1) = if (swl (gm (bi x) (bi y)) i).1 = 0 then (i + 1, gm (bi x) (bi y) (i + 1)) else if bet (i + 1) (gm (bi x) (bi y) (i + 1)) (swl (gm (bi x) (bi y)) i).1 (swl (gm (bi x) (bi y)) i).2 then (i + 1, gm (bi x) (bi y) (i + 1)) else swl (gm (bi x) (bi y)) i := rfl
    have hG1 := hG (i + 1)
    generalize gm (bi x) (bi y) (i + 1) = g at *
    by_cases h0 : (swl (gm (bi x) (bi y)) i).1 = 0
    · rw [h0, bd_eq (judge7_0 (by omega) bu bz)]
      rw [if_pos h0] at es
      refine Or.inl ⟨_, rfl, nI_1 _, ?_⟩
      rw [es]
      exact ⟨rfl, fun _ => ⟨rfl, rfl⟩, a2⟩
    · have hi1 : 1 ≤ i := by
        rcases Nat.eq_zero_or_pos i with e | e
        · subst e; exact absurd rfl h0
        · exact e
      rw [(hb hi1).1, (hb hi1).2, bd_eq (judge7 (by omega) (by omega) (by omega) h0 hG1 hok.2.1)]
      rw [if_neg h0] at es
      refine Or.inl ⟨_, rfl, nI_1 _, ?_⟩
      rw [es]
      by_cases h1 : bet (i + 1) g (swl (gm (bi x) (bi y)) i).1 (swl (gm (bi x) (bi y)) i).2 = true
      · rw [if_pos h1, if_pos h1]
        exact ⟨rfl, fun _ => ⟨rfl, rfl⟩, a2⟩
      · rw [if_neg h1, if_neg h1]
        exact ⟨rfl, fun _ => ⟨rfl, rfl⟩, a2⟩) (by
    rintro ⟨x6, bp, bu, bz, lo, hi⟩ ⟨rfl, rfl, hb, hr⟩
    show ∃ t, bX5_seek_63 (nI n) x y nu (nI (2 ^ n - 1 + 1)) (nI (swl (gm (bi x) (bi y)) (2 ^ n - 1)).1) bu bz lo hi = _ ∧ _
    have hb : bu = nI (swl (gm (bi x) (bi y)) (2 ^ n - 1)).2 ∧ bz = nI (bs (swl (gm (bi x) (bi y)) (2 ^ n - 1)).1) := hb (by omega)
    unfold bX5_seek_63
    rw [hsh, show 2 ^ n - 1 + 1 = 2 ^ n by omega, brT (Int32.le_refl _), hb.1, hb.2]
    exact ⟨_, rfl, lo, hi, rfl⟩) (q := ((1 : Int32), (0 : Int32), su, sz, lo, hi)) ⟨rfl, rfl, fun h => absurd h (by omega), fun t ht v hv => by
      show w2 (lo t) (hi t) v = _
      rw [hlo t (by omega), hhi t (by omega)]
      have e1 : w2 0 0 v = false := by
        unfold w2; rw [bi_0, bi_0]; split <;> rfl
      rw [e1]
      cases e : sS (pa (bi x) t 0) (bi y) 41 v with
      | false => rfl
      | true =>
        obtain ⟨a, _, a2, _⟩ := sS_iff.mp e
        rw [pa_iff, Nat.zero_testBit] at a2
        cases a2.2.1⟩
  obtain ⟨t, h1, lo2, hi2, rfl⟩ := key
  exact ⟨lo2, hi2, h1⟩
theorem least8_run {A B : Nat → Bool} {nw fi se : Nat → Int32} (hfi : ∀ e, e < 41 → A e = true → fi (fb_ct A e) = nI e) (hse : ∀ e, e < 41 → B e = true → se (fb_ct B e) = nI e) (hB : ∀ v, 41 ≤ v → B v = false) (h1 : 1 ≤ fb_ct A 41) (h12 : fb_ct A 41 ≤ 12) (ls : Int32) (sm : Nat → Int32) :
    ∃ sm2, run (sX8_findLeast_46 (nI (fb_ct A 41)) (nI (fb_ct B 41)) nw fi se) ((1 : Int32), ls, (0 : Int32), sm) = some (1, nI (swl (gm A B) (2 ^ (fb_ct A 41) - 1)).2, nI (swl (gm A B) (2 ^ (fb_ct A 41) - 1)).1, fi, se, sm2) := by
  generalize hn : fb_ct A 41 = n at *
  have h2n := two_n n (by omega)
  have hpos := Nat.two_pow_pos n
  have hp2 : 2 ≤ 2 ^ n := by
    calc 2 = 2 ^ 1 := rfl
      _ ≤ 2 ^ n := Nat.pow_le_pow_right (by omega) h1
  have hsh : (1 : Int32) <<< (nI n &&& 31) = nI (2 ^ n) := by
    have := shl (s := 1) (i := n) (by omega) (by omega)
    rw [Nat.one_mul] at this
    exact this
  have hG : ∀ p, gm A B p ≤ 81 := gm_le _ _
  have key := run_inv0 (step := sX8_findLeast_46 (nI n) (nI (fb_ct B 41)) nw fi se) (2 ^ n - 1) (fun i q => q.1 = nI (i + 1) ∧ q.2.2.1 = nI (swl (gm A B) i).1 ∧ (1 ≤ i → q.2.1 = nI (swl (gm A B) i).2)) (fun t => ∃ sm2, t = (1, nI (swl (gm A B) (2 ^ n - 1)).2, nI (swl (gm A B) (2 ^ n - 1)).1, fi, se, sm2)) (by
    rintro i ⟨x5, ls, lp, f⟩ hi' ⟨rfl, rfl, hb⟩
    show (∃ q2, bX8_findLeast_46 (nI n) (nI (fb_ct B 41)) nw fi se (nI (i + 1)) ls (nI (swl (gm A B) i).1) f = _ ∧ _) ∨ _
    have hb : 1 ≤ i → ls = nI (swl (gm A B) i).2 := hb
    obtain ⟨sm2, a1⟩ := partSums8 hfi hse hB (p := i + 1) (by omega) (by omega) f
    rw [hn] at a1
    have hok := sw_ok hG i
    unfold bX8_findLeast_46 bX8_findLeast_83 bX8_findLeast_95
    simp only [lt_]
    rw [hsh, brF (nI_ge (by omega) (by omega)), bd_eq a1]
    have es : swl (gm A B) (i + 1) = if (swl (gm A B) i).1 = 0 then (i + 1, gm A B (i + 1)) else if bet (i + 1) (gm A B (i + 1)) (swl (gm A B) i).1 (swl (gm A B) i).2 then (i + 1, gm A B (i + 1)) else swl (gm A B) i := rfl
    have hG1 := hG (i + 1)
    generalize gm A B (i + 1) = g at *
    by_cases h0 : (swl (gm A B) i).1 = 0
    · rw [brT (show nI (swl (gm A B) i).1 = 0 by rw [h0]; rfl)]
      rw [if_pos h0] at es
      refine Or.inl ⟨_, rfl, nI_1 _, ?_⟩
      rw [es]
      exact ⟨rfl, fun _ => rfl⟩
    · have hi1 : 1 ≤ i := by
        rcases Nat.eq_zero_or_pos i with e | e
        · subst e; exact absurd rfl h0
        · exact e
      rw [brF (nI_ne0 (by omega) (by omega)), hb hi1, bd_eq (isLess8 (by omega) (by omega) (by omega) hG1 hok.2.1)]
      rw [if_neg h0] at es
      by_cases h1 : bet (i + 1) g (swl (gm A B) i).1 (swl (gm A B) i).2 = true
      · rw [if_pos h1] at es ⊢
        rw [brF (by decide)]
        refine Or.inl ⟨_, rfl, nI_1 _, ?_⟩
        rw [es]
        exact ⟨rfl, fun _ => rfl⟩
      · rw [if_neg h1] at es ⊢
        rw [brT rfl]
        refine Or.inl ⟨_, rfl, nI_1 _, ?_⟩
        rw [es]
        exact ⟨rfl, fun _ => rfl⟩) (by
    rintro ⟨x5, ls, lp, f⟩ ⟨rfl, rfl, hb⟩
    show ∃ t, bX8_findLeast_46 (nI n) (nI (fb_ct B 41)) nw fi se (nI (2 ^ n - 1 + 1)) ls (nI (swl (gm A B) (2 ^ n - 1)).1) f = _ ∧ _
    have hb : ls = nI (swl (gm A B) (2 ^ n - 1)).2 := hb (by omega)
    unfold bX8_findLeast_46
    rw [hsh, show 2 ^ n - 1 + 1 = 2 ^ n by omega, brT (Int32.le_refl _), gd_eq (Or.inr rfl), hb]
    exact ⟨_, rfl, f, rfl⟩) (q := ((1 : Int32), ls, (0 : Int32), sm)) ⟨rfl, rfl, fun h => absurd h (by omega)⟩
  obtain ⟨t, h1, sm2, rfl⟩ := key
  exact ⟨sm2, h1⟩
