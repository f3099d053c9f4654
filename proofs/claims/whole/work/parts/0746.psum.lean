theorem ps8_39 {A B : Nat → Bool} {fi se : Nat → Int32} (hfi : ∀ e, e < 41 → A e = true → fi (fb_ct A e) = nI e) (hse : ∀ e, e < 41 → B e = true → se (fb_ct B e) = nI e) {p : Nat} (hp : p < 2 ^ 32) {x2 : Int32} {a : Nat} (ha : a < 41) (hA : A a = true) (ha12 : fb_ct A a < 32) {P : Nat → Bool} {C : Nat → Prop} {many : Int32} {sm : Nat → Int32} (hM : MK 81 P many sm) (hC : ∀ u, u < 81 → (P u = true ↔ C u)) :
    ∃ P2 many2 sm2, run (sX8_partSums_39 (nI p) x2 (nI (fb_ct B 41)) (nI (fb_ct A a)) fi se) (many, (0 : Int32), sm) = some (.inl (many2, nI (fb_ct A a + 1), sm2)) ∧ MK 81 P2 many2 sm2 ∧ ∀ u, u < 81 → (P2 u = true ↔ (C u ∨ (p.testBit (fb_ct A a) = true ∧ ∃ b, b < 41 ∧ B b = true ∧ u = a + b))) := by
  have hcB := fb_ct_le B 41
  have key := run_inv0 (step := sX8_partSums_39 (nI p) x2 (nI (fb_ct B 41)) (nI (fb_ct A a)) fi se) (fb_ct B 41) (fun i q => q.2.1 = nI i ∧ ∃ P2, MK 81 P2 q.1 q.2.2 ∧ ∀ u, u < 81 → (P2 u = true ↔ (C u ∨ (p.testBit (fb_ct A a) = true ∧ ∃ b, b < 41 ∧ B b = true ∧ fb_ct B b < i ∧ u = a + b)))) (fun t => ∃ P2 many2 sm2, t = .inl (many2, nI (fb_ct A a + 1), sm2) ∧ MK 81 P2 many2 sm2 ∧ ∀ u, u < 81 → (P2 u = true ↔ (C u ∨ (p.testBit (fb_ct A a) = true ∧ ∃ b, b < 41 ∧ B b = true ∧ u = a + b)))) (by
    rintro i ⟨m, x, f⟩ hi ⟨rfl, P2, hM2, hC2⟩
    have hM2 : MK 81 P2 m f := hM2
    show (∃ q2, bX8_partSums_39 (nI p) x2 (nI (fb_ct B 41)) (nI (fb_ct A a)) fi se m (nI i) f = _ ∧ _) ∨ (∃ t, bX8_partSums_39 (nI p) x2 (nI (fb_ct B 41)) (nI (fb_ct A a)) fi se m (nI i) f = _ ∧ _)
    obtain ⟨b, b1, b2, b3⟩ := fb_ct_kth hi
    unfold bX8_partSums_39 bX8_partSums_85 bX8_partSums_115
    simp only [lt_]
    have hg : ¬ nI (a + b) < 0 ∧ a + b < 241 := ⟨nI_pos (by omega), by omega⟩
    have hgA : ¬ nI (fb_ct A a) < 0 ∧ fb_ct A a < 41 := ⟨nI_pos (by omega), by omega⟩
    have hgB : ¬ nI (fb_ct B b) < 0 ∧ fb_ct B b < 41 := ⟨nI_pos (by omega), by omega⟩
    rw [brF (nI_ge hi (by omega)), sb hp ha12, nI_clamp (by omega), nI_clamp (by omega), hfi a ha hA, ← b3, hse b b1 b2, nI_add, nI_clamp (by omega)]
    simp only [gd_eq hg, gd_eq hgA, gd_eq hgB]
    by_cases hb : p.testBit (fb_ct A a) = true
    · rw [brT (b1_1.mpr hb)]
      have hf : f (a + b) = if P2 (a + b) then 1 else 0 := hM2.2 _ (by omega)
      have h2 := hM2.add (u := a + b) (by omega)
      have hend : ∀ u, u < 81 → ((fun k => if k = a + b then true else P2 k) u = true ↔ (C u ∨ (p.testBit (fb_ct A a) = true ∧ ∃ c, c < 41 ∧ B c = true ∧ fb_ct B c < fb_ct B b + 1 ∧ u = a + c))) := by
        intro u hu
        by_cases e : u = a + b
        · simp only [if_pos e]
          exact ⟨fun _ => Or.inr ⟨hb, b, b1, b2, by omega, e⟩, fun _ => trivial⟩
        · simp only [if_neg e]
          rw [hC2 u hu]
          constructor
          · rintro (h | ⟨h, c, c1, c2, c3, c4⟩)
            · exact Or.inl h
            · exact Or.inr ⟨h, c, c1, c2, by omega, c4⟩
          · rintro (h | ⟨h, c, c1, c2, c3, c4⟩)
            · exact Or.inl h
            · refine Or.inr ⟨h, c, c1, c2, ?_, c4⟩
              rcases Nat.lt_or_ge (fb_ct B c) i with l | l
              · exact l
              · have := fb_ct_kth_one c2 b2 (by omega)
                subst this
                exact absurd c4 e
      by_cases hP : P2 (a + b) = true
      · rw [hf, if_pos hP, brF (by decide)]
        rw [if_pos hP] at h2
        exact Or.inl ⟨_, rfl, nI_1 _, _, h2, hend⟩
      · rw [hf, if_neg hP, brT rfl]
        rw [if_neg hP] at h2
        exact Or.inl ⟨_, rfl, nI_1 _, _, h2, hend⟩
    · rw [brF (fun z => hb (b1_1.mp z))]
      refine Or.inr ⟨_, rfl, P2, m, f, by rw [nI_1], hM2, fun u hu => ?_⟩
      rw [hC2 u hu]
      constructor
      · rintro (h | ⟨h, _⟩)
        · exact Or.inl h
        · exact absurd h hb
      · rintro (h | ⟨h, _⟩)
        · exact Or.inl h
        · exact absurd h hb) (by
    rintro ⟨m, x, f⟩ ⟨rfl, P2, hM2, hC2⟩
    show ∃ t, bX8_partSums_39 (nI p) x2 (nI (fb_ct B 41)) (nI (fb_ct A a)) fi se m (nI (fb_ct B 41)) f = _ ∧ _
    unfold bX8_partSums_39 bX8_partSums_115
    simp only [lt_]
    rw [brT (Int32.le_refl _)]
    refine ⟨_, rfl, P2, m, f, by rw [nI_1], hM2, fun u hu => ?_⟩
    rw [hC2 u hu]
    constructor
    · rintro (h | ⟨h, c, c1, c2, c3, c4⟩)
      · exact Or.inl h
      · exact Or.inr ⟨h, c, c1, c2, c4⟩
    · rintro (h | ⟨h, c, c1, c2, c4⟩)
      · exact Or.inl h
      · exact Or.inr ⟨h, c, c1, c2, ct_lt c1 c2, c4⟩) (q := (many, (0 : Int32), sm)) ⟨rfl, P, hM, fun u hu => by
      rw [hC u hu]
      constructor
      · exact Or.inl
      · rintro (h | ⟨h, c, c1, c2, c3, c4⟩)
        · exact h
        · omega⟩
  obtain ⟨t, h1, P2, many2, sm2, rfl, h2, h3⟩ := key
  exact ⟨P2, many2, sm2, h1, h2, h3⟩
theorem partSums8 {A B : Nat → Bool} {fi se : Nat → Int32} (hfi : ∀ e, e < 41 → A e = true → fi (fb_ct A e) = nI e) (hse : ∀ e, e < 41 → B e = true → se (fb_ct B e) = nI e) (hB : ∀ v, 41 ≤ v → B v = false) {p : Nat} (hp : p < 2 ^ 32) (hn : fb_ct A 41 ≤ 12) (sm : Nat → Int32) :
    ∃ sm2, fX8_partSums (nI p) (nI (fb_ct A 41)) (nI (fb_ct B 41)) fi se sm = some (nI (gm A B p), sm2) := by
  have loop : ∀ f, (∀ u, u < 81 → f u = 0) → ∃ sm2, run (sX8_partSums_30 (nI p) (nI (fb_ct A 41)) (nI (fb_ct B 41)) fi se) ((0 : Int32), (0 : Int32), f) = some (nI (gm A B p), sm2) := by
    intro f hf
    have key := run_inv0 (step := sX8_partSums_30 (nI p) (nI (fb_ct A 41)) (nI (fb_ct B 41)) fi se) (fb_ct A 41) (fun i q => q.2.1 = nI i ∧ ∃ P, MK 81 P q.1 q.2.2 ∧ ∀ u, u < 81 → (P u = true ↔ ∃ a, a < 41 ∧ A a = true ∧ fb_ct A a < i ∧ p.testBit (fb_ct A a) = true ∧ ∃ b, b < 41 ∧ B b = true ∧ u = a + b)) (fun t => ∃ sm2, t = (nI (gm A B p), sm2)) (by
      rintro i ⟨m, x, f⟩ hi ⟨rfl, P, hM, hP⟩
      show (∃ q2, bX8_partSums_30 (nI p) (nI (fb_ct A 41)) (nI (fb_ct B 41)) fi se m (nI i) f = _ ∧ _) ∨ _
      obtain ⟨a, a1, a2, a3⟩ := fb_ct_kth hi
      subst a3
      obtain ⟨P2, m2, sm2, h1, h2, h3⟩ := ps8_39 hfi hse hp (x2 := nI (fb_ct A 41)) a1 a2 (by omega) hM hP
      unfold bX8_partSums_30
      rw [brF (nI_ge hi (by omega))]
      refine Or.inl ⟨_, h1, rfl, P2, h2, fun u hu => ?_⟩
      rw [h3 u hu]
      constructor
      · rintro (⟨c, c1, c2, c3, c4⟩ | ⟨h, h4⟩)
        · exact ⟨c, c1, c2, by omega, c4⟩
        · exact ⟨a, a1, a2, by omega, h, h4⟩
      · rintro ⟨c, c1, c2, c3, c4, c5⟩
        by_cases e : fb_ct A c = fb_ct A a
        · have := fb_ct_kth_one c2 a2 e
          subst this
          exact Or.inr ⟨c4, c5⟩
        · exact Or.inl ⟨c, c1, c2, by omega, c4, c5⟩) (by
      rintro ⟨m, x, f⟩ ⟨rfl, P, hM, hP⟩
      show ∃ t, bX8_partSums_30 (nI p) (nI (fb_ct A 41)) (nI (fb_ct B 41)) fi se m (nI (fb_ct A 41)) f = _ ∧ _
      unfold bX8_partSums_30
      rw [brT (Int32.le_refl _)]
      refine ⟨_, rfl, f, ?_⟩
      have hm : m = nI (fb_ct P 81) := hM.1
      have hgm : fb_ct P 81 = gm A B p := by
       unfold gm
       refine fb_ct_cong (fun u hu => ?_)
       rw [Bool.eq_iff_iff, hP u hu, sS_iff]
       constructor
       · rintro ⟨a, a1, a2, a3, a4, b, b1, b2, b3⟩
         exact ⟨a, a1, pa_iff.mpr ⟨a2, a4, by omega⟩, by omega, by rw [show u - a = b by omega]; exact b2⟩
       · rintro ⟨a, a1, a2, a3, a4⟩
         rw [pa_iff] at a2
         refine ⟨a, a1, a2.1, ct_lt a1 a2.1, a2.2.1, u - a, ?_, a4, by omega⟩
         rcases Nat.lt_or_ge (u - a) 41 with z | z
         · exact z
         · rw [hB _ z] at a4; cases a4
      rw [hm, hgm]) (q := ((0 : Int32), (0 : Int32), f)) ⟨rfl, fun _ => false, ⟨by
        rw [fb_ct_zero.mpr (fun _ _ => rfl)]; rfl, fun u hu => hf u hu⟩, fun u hu => by
        constructor
        · intro h; cases h
        · rintro ⟨a, _, _, a3, _⟩; omega⟩
    obtain ⟨t, h1, sm2, rfl⟩ := key
    exact ⟨sm2, h1⟩
  unfold fX8_partSums
  obtain ⟨q2, h1, h2, h3⟩ := run_go (step := sX8_partSums_3 (nI p) (nI (fb_ct A 41)) (nI (fb_ct B 41)) fi se) 81 (fun i q => q.1 = nI i ∧ ∀ v, v < i → q.2 v = 0) (by
    rintro i ⟨x, f⟩ hi ⟨rfl, hf⟩
    show ∃ q2, bX8_partSums_3 (nI p) (nI (fb_ct A 41)) (nI (fb_ct B 41)) fi se (nI i) f = _ ∧ _
    unfold bX8_partSums_3
    simp only [lt_]
    rw [brF (show ¬ (81 : Int32) ≤ nI i from nI_ge (b := 81) hi (by omega)), nI_clamp (by omega), gd_eq ⟨nI_pos (by omega), by omega⟩]
    refine ⟨_, rfl, nI_1 i, fun v hv => ?_⟩
    show upd f i 0 v = 0
    by_cases e : v = i
    · subst e; exact pk_us
    · rw [pk_un e]; exact hf v (by omega)) 81 0 ((0 : Int32), sm) (by omega) ⟨rfl, fun v hv => absurd hv (by omega)⟩
  obtain ⟨x, f⟩ := q2
  cases h2
  obtain ⟨sm2, e⟩ := loop f h3
  refine ⟨sm2, ?_⟩
  rw [h1]
  refine run_inr ?_
  show bX8_partSums_3 (nI p) (nI (fb_ct A 41)) (nI (fb_ct B 41)) fi se (nI 81) f = _
  unfold bX8_partSums_3
  rw [brT (by decide), e]; rfl
/-- how many numbers a part has -/
def bs (p : Nat) : Nat := fb_ct p.testBit 12
theorem bs_le (p : Nat) : bs p ≤ 12 := fb_ct_le _ _
theorem bits8 {p : Nat} (hp : p < 2 ^ 32) : fX8_bits (nI p) = some (nI (bs p)) := by
  unfold fX8_bits
  refine run_all (step := sX8_bits_4 (nI p)) 12 (fun i => (nI (fb_ct p.testBit i), nI i)) _ ?_ ?_
  · intro i hi
    show bX8_bits_4 (nI p) (nI (fb_ct p.testBit i)) (nI i) = _
    unfold bX8_bits_4
    simp only [lt_]
    rw [brF (show ¬ (12 : Int32) ≤ nI i from nI_ge (b := 12) hi (by omega)), sb hp (by omega), nI_add, nI_1, fb_ct_succ]
  · show bX8_bits_4 (nI p) (nI (fb_ct p.testBit 12)) (nI 12) = _
    unfold bX8_bits_4
    rw [brT (by decide)]; rfl
theorem bits7 {p : Nat} (hp : p < 2 ^ 12) : fJ6_bitCount_0f7a4 (nI p) = some (nI (bs p)) := by
  rw [bct (by omega)]
  congr 2
  rw [show (32 : Nat) = 12 + 20 from rfl, fb_ct_split]
  have e : fb_ct (fun k => p.testBit (12 + k)) 20 = 0 := fb_ct_zero.mpr (fun k _ => Nat.testBit_lt_two_pow (Nat.lt_of_lt_of_le hp (Nat.pow_le_pow_right (by omega) (by omega))))
  rw [e]; rfl
