theorem i52 {A : Nat → Bool} {fi : Nat → Int32} (hfi : ∀ x, x < 41 → A x = true → fi (fb_ct A x) = nI x) {a0 : Nat} (hf0 : fi 0 = nI a0) (hmin : ∀ x, x < 41 → A x = true → a0 ≤ x) {d e m k : Nat} (hd : 1 ≤ d) (hd2 : d ≤ 80) (he : e ≤ 80) (hm : m ≤ 81) (hk : k ≤ 81) {x : Nat} (hx : x < 41) (hA : A x = true) (x1 : Int32) :
    ∃ r, run (sX8_isGrid_52 x1 (nI d) (nI e) (nI m) (nI k) (nI (fb_ct A x)) fi) ((0 : Int32), (0 : Int32)) = some (.inl (r, nI (fb_ct A x + 1))) ∧ is01 r (∃ i j, i < m ∧ j < k ∧ x = a0 + i * d + j * e) := by
  have hx0 := hmin x hx hA
  have hct := fb_ct_le A x
  have key := run_inv0 (step := sX8_isGrid_52 x1 (nI d) (nI e) (nI m) (nI k) (nI (fb_ct A x)) fi) k (fun j q => q.2 = nI j ∧ is01 q.1 (∃ i j', i < m ∧ j' < j ∧ x = a0 + i * d + j' * e)) (fun t => ∃ r, t = .inl (r, nI (fb_ct A x + 1)) ∧ is01 r (∃ i j, i < m ∧ j < k ∧ x = a0 + i * d + j * e)) (by
    rintro j ⟨b, p⟩ hj ⟨rfl, hb⟩
    have hb : is01 b (∃ i j', i < m ∧ j' < j ∧ x = a0 + i * d + j' * e) := hb
    show (∃ q2, bX8_isGrid_52 x1 (nI d) (nI e) (nI m) (nI k) (nI (fb_ct A x)) fi b (nI j) = _ ∧ _) ∨ _
    left
    unfold bX8_isGrid_52 bX8_isGrid_106 bX8_isGrid_110 bX8_isGrid_111
    simp only [lt_]
    have hje : j * e ≤ 80 * 80 := Nat.mul_le_mul (by omega) he
    have z0 : (0 : Int32).toNatClampNeg = 0 := by decide
    rw [brF (nI_ge hj (by omega)), nI_clamp (by omega), gd_eq ⟨nI_pos (by omega), by omega⟩, gd_eq (by decide), hfi x hx hA, z0, hf0, pk_sub hx0, pk_mul]
    have yes : (∃ i, i < m ∧ x = a0 + i * d + j * e) → is01 (1 : Int32) (∃ i j', i < m ∧ j' < j + 1 ∧ x = a0 + i * d + j' * e) := by
      rintro ⟨i, i1, i2⟩
      exact is01.yes ⟨i, j, i1, by omega, i2⟩
    have no : b = 0 → ¬ (∃ i, i < m ∧ x = a0 + i * d + j * e) → is01 (0 : Int32) (∃ i j', i < m ∧ j' < j + 1 ∧ x = a0 + i * d + j' * e) := by
      intro b0 hn
      refine is01.no ?_
      rintro ⟨i, j', i1, i2, i3⟩
      by_cases ej : j' = j
      · subst ej; exact hn ⟨i, i1, i3⟩
      · exact hb.ne.mpr ⟨i, j', i1, by omega, i3⟩ b0
    by_cases b0 : b = 0
    · rw [brT b0]
      by_cases hle : j * e ≤ x - a0
      · rw [pk_sub hle, brF (nI_pos (by omega)), gd_eq (nI_ne0 (by omega) (by omega)), pk_rem (by omega) (by omega) (by omega), pk_div (by omega) (by omega) (by omega)]
        have hdm := Nat.div_add_mod (x - a0 - j * e) d
        by_cases hr : (x - a0 - j * e) % d = 0
        · rw [brT (show nI ((x - a0 - j * e) % d) = 0 by rw [hr]; rfl), gd_eq (nI_ne0 (by omega) (by omega))]
          have hq : (x - a0 - j * e) / d ≤ x - a0 - j * e := Nat.div_le_self _ _
          by_cases hlt : (x - a0 - j * e) / d < m
          · rw [brF (nI_ge hlt (by omega))]
            refine ⟨_, rfl, nI_1 j, yes ⟨(x - a0 - j * e) / d, hlt, ?_⟩⟩
            rw [hr, Nat.mul_comm] at hdm
            omega
          · rw [brT (nI_le (by omega) (by omega))]
            refine ⟨_, rfl, nI_1 j, no b0 ?_⟩
            rintro ⟨i, i1, i2⟩
            have : (x - a0 - j * e) / d = i := by
              rw [show x - a0 - j * e = i * d by omega, Nat.mul_div_cancel _ (by omega)]
            omega
        · have hr2 : (x - a0 - j * e) % d < d := Nat.mod_lt _ (by omega)
          rw [brF (nI_ne0 (by omega) (by omega))]
          refine ⟨_, rfl, nI_1 j, no b0 ?_⟩
          rintro ⟨i, i1, i2⟩
          rw [show x - a0 - j * e = i * d by omega, Nat.mul_mod_left] at hr
          exact hr rfl
      · rw [brT (pk_sneg (by omega) (by omega))]
        refine ⟨_, rfl, nI_1 j, no b0 ?_⟩
        rintro ⟨i, i1, i2⟩
        omega
    · rw [brF b0]
      refine ⟨_, rfl, nI_1 j, is01.yes ?_⟩
      obtain ⟨i, j', i1, i2, i3⟩ := hb.ne.mp b0
      exact ⟨i, j', i1, by omega, i3⟩) (by
    rintro ⟨b, p⟩ ⟨rfl, hb⟩
    show ∃ t, bX8_isGrid_52 x1 (nI d) (nI e) (nI m) (nI k) (nI (fb_ct A x)) fi b (nI k) = _ ∧ _
    unfold bX8_isGrid_52
    rw [brT (Int32.le_refl _)]
    exact ⟨_, rfl, b, by rw [nI_1], hb⟩) (q := ((0 : Int32), (0 : Int32))) ⟨rfl, is01.no (by rintro ⟨_, j, _, z, _⟩; omega)⟩
  obtain ⟨t, h1, r, rfl, h2⟩ := key
  exact ⟨r, h1, h2⟩
theorem isGrid8 {A : Nat → Bool} {fi : Nat → Int32} (hfi : ∀ x, x < 41 → A x = true → fi (fb_ct A x) = nI x) {a0 : Nat} (hf0 : fi 0 = nI a0) (hmin : ∀ x, x < 41 → A x = true → a0 ≤ x) {d e m k : Nat} (hd : 1 ≤ d) (hd2 : d ≤ 80) (he1 : 1 ≤ e) (he : e ≤ 80) (hm : m ≤ 81) (hk : k ≤ 81) :
    ∃ r, fX8_isGrid (nI (fb_ct A 41)) (nI d) (nI e) (nI m) (nI k) fi = some r ∧ is01 r (onc d e m k ∧ cov A a0 d e m k) := by
  have hcA := fb_ct_le A 41
  have loop : ∀ (k0 : Int32), is01 k0 (onc d e m k) → ∃ r, run (sX8_isGrid_35 (nI (fb_ct A 41)) (nI d) (nI e) (nI m) (nI k) fi) (k0, (0 : Int32)) = some r ∧ is01 r (onc d e m k ∧ cov A a0 d e m k) := by
    intro k0 h0
    refine run_inv0 (step := sX8_isGrid_35 (nI (fb_ct A 41)) (nI d) (nI e) (nI m) (nI k) fi) (fb_ct A 41) (fun i q => q.2 = nI i ∧ is01 q.1 (onc d e m k ∧ ∀ x, x < 41 → A x = true → fb_ct A x < i → ∃ i j, i < m ∧ j < k ∧ x = a0 + i * d + j * e)) (fun r => is01 r (onc d e m k ∧ cov A a0 d e m k)) ?_ ?_ ⟨rfl, h0.congr ⟨fun z => ⟨z, fun x _ _ y => absurd y (by omega)⟩, fun z => z.1⟩⟩
    · rintro i ⟨b, p⟩ hi ⟨rfl, hb⟩
      have hb : is01 b (onc d e m k ∧ ∀ x, x < 41 → A x = true → fb_ct A x < i → ∃ i j, i < m ∧ j < k ∧ x = a0 + i * d + j * e) := hb
      show (∃ q2, bX8_isGrid_35 (nI (fb_ct A 41)) (nI d) (nI e) (nI m) (nI k) fi b (nI i) = _ ∧ _) ∨ (∃ t, bX8_isGrid_35 (nI (fb_ct A 41)) (nI d) (nI e) (nI m) (nI k) fi b (nI i) = _ ∧ _)
      unfold bX8_isGrid_35
      rw [brF (nI_ge hi (by omega))]
      by_cases b0 : b = 0
      · rw [brT b0, gd_eq (Or.inl b0)]
        refine Or.inr ⟨_, rfl, ?_⟩
        rw [b0]
        refine is01.no ?_
        rintro ⟨c1, c2⟩
        exact hb.ne.mpr ⟨c1, fun x y1 y2 _ => c2 x y1 y2⟩ b0
      · rw [brF b0]
        obtain ⟨x, y1, y2, y3⟩ := fb_ct_kth hi
        subst y3
        obtain ⟨r, r1, r2⟩ := i52 hfi hf0 hmin hd hd2 he hm hk y1 y2 (nI (fb_ct A 41))
        refine Or.inl ⟨_, r1, rfl, r2.congr ⟨?_, ?_⟩⟩
        · intro z
          have hb2 := hb.ne.mp b0
          refine ⟨hb2.1, fun x' z1 z2 z3 => ?_⟩
          by_cases ex : fb_ct A x' = fb_ct A x
          · have := fb_ct_kth_one z2 y2 ex
            subst this
            exact z
          · exact hb2.2 x' z1 z2 (by omega)
        · rintro ⟨_, z⟩
          exact z x y1 y2 (by omega)
    · rintro ⟨b, p⟩ ⟨rfl, hb⟩
      have hb : is01 b (onc d e m k ∧ ∀ x, x < 41 → A x = true → fb_ct A x < fb_ct A 41 → ∃ i j, i < m ∧ j < k ∧ x = a0 + i * d + j * e) := hb
      show ∃ t, bX8_isGrid_35 (nI (fb_ct A 41)) (nI d) (nI e) (nI m) (nI k) fi b (nI (fb_ct A 41)) = _ ∧ _
      unfold bX8_isGrid_35
      rw [brT (Int32.le_refl _), gd_eq hb.z]
      refine ⟨_, rfl, hb.congr ⟨?_, ?_⟩⟩
      · rintro ⟨c1, c2⟩
        exact ⟨c1, fun x y1 y2 => c2 x y1 y2 (ct_lt y1 y2)⟩
      · rintro ⟨c1, c2⟩
        exact ⟨c1, fun x y1 y2 _ => c2 x y1 y2⟩
  have hg : 0 < Nat.gcd e d := Nat.gcd_pos_of_pos_left _ he1
  have hgl : Nat.gcd e d ≤ 80 := Nat.le_trans (Nat.gcd_le_left _ (by omega)) he
  have g0 : ¬ nI (Nat.gcd e d) = 0 := nI_ne0 (by omega) (by omega)
  have q1 : e / Nat.gcd e d ≤ e := Nat.div_le_self _ _
  have q2 : d / Nat.gcd e d ≤ d := Nat.div_le_self _ _
  unfold fX8_isGrid bX8_isGrid_25 bX8_isGrid_30
  simp only [lt_]
  rw [bd_eq (gd8 (by omega) (by omega)), gd_eq g0, gd_eq g0, pk_div (by omega) hg (by omega), pk_div (by omega) hg (by omega)]
  by_cases c1 : m ≤ e / Nat.gcd e d
  · rw [brT (nI_le c1 (by omega))]
    exact loop 1 (is01.yes (Or.inl c1))
  · rw [brF (nI_ge (by omega) (by omega))]
    by_cases c2 : k ≤ d / Nat.gcd e d
    · rw [brF (nI_nlt c2 (by omega))]
      exact loop 1 (is01.yes (Or.inr c2))
    · rw [brT (nI_lt (by omega) (by omega))]
      exact loop 0 (is01.no (fun z => by rcases z with z | z <;> omega))
