/-- how many sums a set s within 0 to l has with itself -/
def own (s l : Nat) : Nat := fb_ct (sS s.testBit s.testBit (l + 1)) 32
theorem own7 {s l : Nat} (hs : s < 2 ^ 32) (hl : l ≤ 14) : fX4_sumsWithItself (nI s) (nI l) = some (nI (own s l)) := by
  unfold fX4_sumsWithItself
  refine run_val ?_
  refine run_inv0 (step := sX4_sumsWithItself_4 (nI s) (nI l)) (l + 1) (fun i q => q.2 = nI i ∧ ∀ u, u < 32 → bt q.1 u = sS s.testBit s.testBit i u) _ ?_ ?_ ⟨rfl, fun u _ => by
    show bt 0 u = _
    rw [b_0]; unfold sS; simp [fb_ct]⟩
  · rintro i ⟨x, p⟩ hi ⟨rfl, hx⟩
    show (∃ q2, bX4_sumsWithItself_4 (nI s) (nI l) x (nI i) = _ ∧ _) ∨ _
    unfold bX4_sumsWithItself_4 bX4_sumsWithItself_26
    simp only [lt_]
    have hx : ∀ u, u < 32 → bt x u = sS s.testBit s.testBit i u := hx
    rw [brF (nI_nlt (by omega) (by omega)), ub hs (by omega)]
    by_cases hb : s.testBit i = true
    · rw [brF (fun z => by rw [b1_0] at z; rw [z] at hb; cases hb)]
      refine Or.inl ⟨_, rfl, nI_1 i, fun u hu => ?_⟩
      show bt (x ||| (nI s <<< (nI i &&& 31))) u = _
      rw [b_or, hx u hu, b_shl i (by omega) _ hu, bt_nI hs, sS_succ, hb, Bool.true_and]
    · rw [brT (by rw [b1_0]; simpa using hb)]
      refine Or.inl ⟨_, rfl, nI_1 i, fun u hu => ?_⟩
      show bt x u = _
      rw [hx u hu, sS_succ, show s.testBit i = false by simpa using hb, Bool.false_and, Bool.or_false]
  · rintro ⟨x, p⟩ ⟨rfl, hx⟩
    show ∃ t, bX4_sumsWithItself_4 (nI s) (nI l) x (nI (l + 1)) = _ ∧ _
    unfold bX4_sumsWithItself_4
    rw [brT (nI_lt (by omega) (by omega)), bc32, bd_eq rfl]
    refine ⟨_, rfl, ?_⟩
    rw [fb_ct_cong hx]; rfl
/-- sums marked, and how many -/
def MK (N : Nat) (P : Nat → Bool) (many : Int32) (sm : Nat → Int32) : Prop := many = nI (fb_ct P N) ∧ ∀ u, u < N → sm u = if P u then 1 else 0
theorem MK.add {N : Nat} {P : Nat → Bool} {many : Int32} {sm : Nat → Int32} (h : MK N P many sm) {u : Nat} (hu : u < N) : MK N (fun k => if k = u then true else P k) (many + if P u then 0 else 1) (upd sm u 1) := by
  have e := fb_ct_upd P true hu
  rw [if_pos rfl] at e
  refine ⟨?_, fun v hv => ?_⟩
  · rw [h.1]
    by_cases hp : P u = true
    · rw [if_pos hp] at e ⊢
      rw [nI_z]; congr 1; omega
    · rw [if_neg hp] at e ⊢
      rw [nI_1]; congr 1; omega
  · by_cases e2 : v = u
    · rw [e2, pk_us]; simp
    · rw [pk_un e2, h.2 v hv]; simp only [if_neg e2]
theorem own8_36 {s l a : Nat} (hs : s < 2 ^ 32) (hl : l ≤ 14) (ha : a ≤ l) {P : Nat → Bool} {C : Nat → Prop} {many : Int32} {sm : Nat → Int32} (hM : MK (2 * l + 1) P many sm) (hC : ∀ u, u < 2 * l + 1 → (P u = true ↔ C u)) :
    ∃ P2 many2 sm2, run (sX8_ownSums_36 (nI s) (nI l) (nI a)) (many, (0 : Int32), sm) = some (.inl (many2, nI (a + 1), sm2)) ∧ MK (2 * l + 1) P2 many2 sm2 ∧ ∀ u, u < 2 * l + 1 → (P2 u = true ↔ (C u ∨ (s.testBit a = true ∧ ∃ b, b ≤ a ∧ s.testBit b = true ∧ u = a + b))) := by
  have key := run_inv0 (step := sX8_ownSums_36 (nI s) (nI l) (nI a)) (a + 1) (fun i q => q.2.1 = nI i ∧ ∃ P2, MK (2 * l + 1) P2 q.1 q.2.2 ∧ ∀ u, u < 2 * l + 1 → (P2 u = true ↔ (C u ∨ (s.testBit a = true ∧ ∃ b, b < i ∧ s.testBit b = true ∧ u = a + b)))) (fun t => ∃ P2 many2 sm2, t = .inl (many2, nI (a + 1), sm2) ∧ MK (2 * l + 1) P2 many2 sm2 ∧ ∀ u, u < 2 * l + 1 → (P2 u = true ↔ (C u ∨ (s.testBit a = true ∧ ∃ b, b ≤ a ∧ s.testBit b = true ∧ u = a + b)))) (by
    rintro i ⟨m, p, f⟩ hi ⟨rfl, P2, hM2, hC2⟩
    show (∃ q2, bX8_ownSums_36 (nI s) (nI l) (nI a) m (nI i) f = _ ∧ _) ∨ _
    unfold bX8_ownSums_36 bX8_ownSums_80 bX8_ownSums_81 bX8_ownSums_94 bX8_ownSums_123 bX8_ownSums_128
    simp only [lt_]
    have hM2 : MK (2 * l + 1) P2 m f := hM2
    have hg : ¬ nI (a + i) < 0 ∧ a + i < 241 := ⟨nI_pos (by omega), by omega⟩
    rw [brF (nI_nlt (by omega) (by omega)), sb hs (by omega), sb hs (by omega), nI_add, nI_clamp (by omega)]
    simp only [gd_eq hg]
    have hf : f (a + i) = if P2 (a + i) then 1 else 0 := hM2.2 _ (by omega)
    have keep : ∀ (Q : Prop), Q = (s.testBit a = true ∧ s.testBit i = true ∧ P2 (a + i) = false) → ¬ Q → MK (2 * l + 1) P2 (m + 0) (upd f (a + i) (if P2 (a + i) then 1 else 0)) ∧ ∀ u, u < 2 * l + 1 → (P2 u = true ↔ (C u ∨ (s.testBit a = true ∧ ∃ b, b < i + 1 ∧ s.testBit b = true ∧ u = a + b))) := by
      intro Q hQ hn
      rw [hQ] at hn
      refine ⟨⟨by rw [Int32.add_zero]; exact hM2.1, fun u hu => ?_⟩, fun u hu => ?_⟩
      · by_cases e : u = a + i
        · rw [e, pk_us]
        · rw [pk_un e]; exact hM2.2 u hu
      · rw [hC2 u hu]
        constructor
        · rintro (h | ⟨h, b, b1, b2, b3⟩)
          · exact Or.inl h
          · exact Or.inr ⟨h, b, by omega, b2, b3⟩
        · rintro (h | ⟨h, b, b1, b2, b3⟩)
          · exact Or.inl h
          · by_cases e : b = i
            · subst e
              subst b3
              cases e2 : P2 (a + b) with
              | false => exact absurd ⟨h, b2, e2⟩ hn
              | true => exact (hC2 _ hu).mp e2
            · exact Or.inr ⟨h, b, by omega, b2, b3⟩
    have stay : ¬ (s.testBit a = true ∧ s.testBit i = true ∧ P2 (a + i) = false) → (∃ q2, (some (Sum.inl (m + 0, nI i + 1, upd f (a + i) (if P2 (a + i) then 1 else 0))) : Option ((Int32 × Int32 × (Nat → Int32)) ⊕ ((Int32 × Int32 × (Nat → Int32)) ⊕ (Int32 × (Nat → Int32))))) = some (Sum.inl q2) ∧ q2.2.1 = nI (i + 1) ∧ ∃ P2, MK (2 * l + 1) P2 q2.1 q2.2.2 ∧ ∀ u, u < 2 * l + 1 → (P2 u = true ↔ (C u ∨ (s.testBit a = true ∧ ∃ b, b < i + 1 ∧ s.testBit b = true ∧ u = a + b)))) := fun hn => ⟨_, rfl, nI_1 i, P2, keep _ rfl hn⟩
    have e0 : vp_nar .boolean 0 = 0 := rfl
    have e1 : vp_nar .boolean 1 = 1 := rfl
    left
    rw [hf, e0, e1]
    by_cases hA : s.testBit a = true
    · rw [brT (b1_1.mpr hA)]
      by_cases hB : s.testBit i = true
      · rw [brT (b1_1.mpr hB)]
        by_cases hP : P2 (a + i) = true
        · rw [if_pos hP, brF (by decide), brT trivial, brF (by decide)]
          have h2 := stay (fun z => by rw [hP] at z; cases z.2.2)
          rw [if_pos hP] at h2
          exact h2
        · rw [if_neg hP, brT rfl, brF (by decide), brT rfl, brF (by decide)]
          have h2 := hM2.add (u := a + i) (by omega)
          rw [if_neg hP] at h2
          refine ⟨_, rfl, nI_1 i, _, h2, fun u hu => ?_⟩
          by_cases e : u = a + i
          · rw [if_pos e]
            exact ⟨fun _ => Or.inr ⟨hA, i, by omega, hB, e⟩, fun _ => rfl⟩
          · rw [if_neg e, hC2 u hu]
            constructor
            · rintro (h | ⟨h, b, b1, b2, b3⟩)
              · exact Or.inl h
              · exact Or.inr ⟨h, b, by omega, b2, b3⟩
            · rintro (h | ⟨h, b, b1, b2, b3⟩)
              · exact Or.inl h
              · refine Or.inr ⟨h, b, ?_, b2, b3⟩
                rcases Nat.lt_or_ge b i with l1 | l1
                · exact l1
                · exact absurd (by rw [b3, show b = i by omega]) e
      · rw [brF (fun z => hB (b1_1.mp z)), brT trivial]
        have h2 := stay (fun z => hB z.2.1)
        by_cases hP : P2 (a + i) = true
        · rw [if_pos hP] at h2 ⊢
          rw [brF (by decide)]; exact h2
        · rw [if_neg hP] at h2 ⊢
          rw [brT rfl, brT trivial]; exact h2
    · rw [brF (fun z => hA (b1_1.mp z)), brT trivial]
      have h2 := stay (fun z => hA z.1)
      by_cases hP : P2 (a + i) = true
      · rw [if_pos hP] at h2 ⊢
        rw [brF (by decide)]; exact h2
      · rw [if_neg hP] at h2 ⊢
        rw [brT rfl, brT trivial]; exact h2) (by
    rintro ⟨m, p, f⟩ ⟨rfl, P2, hM2, hC2⟩
    show ∃ t, bX8_ownSums_36 (nI s) (nI l) (nI a) m (nI (a + 1)) f = _ ∧ _
    unfold bX8_ownSums_36
    rw [brT (nI_lt (by omega) (by omega))]
    refine ⟨_, rfl, P2, m, f, by rw [nI_1], hM2, fun u hu => ?_⟩
    rw [hC2 u hu]
    constructor
    · rintro (h | ⟨h, b, b1, b2, b3⟩)
      · exact Or.inl h
      · exact Or.inr ⟨h, b, by omega, b2, b3⟩
    · rintro (h | ⟨h, b, b1, b2, b3⟩)
      · exact Or.inl h
      · exact Or.inr ⟨h, b, by omega, b2, b3⟩) (q := (many, (0 : Int32), sm)) ⟨rfl, P, hM, fun u hu => by
      rw [hC u hu]
      constructor
      · exact Or.inl
      · rintro (h | ⟨h, b, b1, b2, b3⟩)
        · exact h
        · omega⟩
  obtain ⟨t, h1, P2, many2, sm2, rfl, h2, h3⟩ := key
  exact ⟨P2, many2, sm2, h1, h2, h3⟩
theorem own8 {s l : Nat} (hs : s < 2 ^ (l + 1)) (hl : l ≤ 14) (sm : Nat → Int32) : ∃ sm2, fX8_ownSums (nI s) (nI l) sm = some (nI (own s l), sm2) := by
  have hp : 2 ^ (l + 1) ≤ 2 ^ 15 := Nat.pow_le_pow_right (by omega) (by omega)
  have hs2 : s < 2 ^ 32 := by omega
  have loop : ∀ f, (∀ u, u < 2 * l + 1 → f u = 0) → ∃ sm2, run (sX8_ownSums_27 (nI s) (nI l)) ((0 : Int32), (0 : Int32), f) = some (nI (own s l), sm2) := by
    intro f hf
    have key := run_inv0 (step := sX8_ownSums_27 (nI s) (nI l)) (l + 1) (fun i q => q.2.1 = nI i ∧ ∃ P, MK (2 * l + 1) P q.1 q.2.2 ∧ ∀ u, u < 2 * l + 1 → (P u = true ↔ ∃ a, a < i ∧ s.testBit a = true ∧ ∃ b, b ≤ a ∧ s.testBit b = true ∧ u = a + b)) (fun t => ∃ sm2, t = (nI (own s l), sm2)) (by
      rintro i ⟨m, p, f⟩ hi ⟨rfl, P, hM, hP⟩
      show (∃ q2, bX8_ownSums_27 (nI s) (nI l) m (nI i) f = _ ∧ _) ∨ _
      unfold bX8_ownSums_27
      obtain ⟨P2, m2, sm2, h1, h2, h3⟩ := own8_36 hs2 hl (a := i) (by omega) hM hP
      rw [brF (nI_nlt (by omega) (by omega))]
      refine Or.inl ⟨_, h1, rfl, P2, h2, fun u hu => ?_⟩
      rw [h3 u hu]
      constructor
      · rintro (⟨a, a1, a2⟩ | h)
        · exact ⟨a, by omega, a2⟩
        · exact ⟨i, by omega, h⟩
      · rintro ⟨a, a1, a2⟩
        by_cases e : a = i
        · subst e; exact Or.inr a2
        · exact Or.inl ⟨a, by omega, a2⟩) (by
      rintro ⟨m, p, f⟩ ⟨rfl, P, hM, hP⟩
      show ∃ t, bX8_ownSums_27 (nI s) (nI l) m (nI (l + 1)) f = _ ∧ _
      unfold bX8_ownSums_27
      rw [brT (nI_lt (by omega) (by omega))]
      refine ⟨_, rfl, f, ?_⟩
      have hm : m = nI (fb_ct P (2 * l + 1)) := hM.1
      rw [hm]
      congr 2
      unfold own
      have h32 := fb_ct_split (sS s.testBit s.testBit (l + 1)) (2 * l + 1) (32 - (2 * l + 1))
      rw [show (2 * l + 1) + (32 - (2 * l + 1)) = 32 by omega] at h32
      have hbig : ∀ b, l < b → s.testBit b = false := fun b hb => Nat.testBit_lt_two_pow (Nat.lt_of_lt_of_le hs (Nat.pow_le_pow_right (by omega) (by omega)))
      have e : fb_ct (fun k => sS s.testBit s.testBit (l + 1) (2 * l + 1 + k)) (32 - (2 * l + 1)) = 0 := by
        refine fb_ct_zero.mpr (fun k _ => ?_)
        cases e : sS s.testBit s.testBit (l + 1) (2 * l + 1 + k) with
        | false => rfl
        | true =>
          obtain ⟨a, a1, a2, a3, a4⟩ := sS_iff.mp e
          rw [hbig _ (by omega)] at a4
          cases a4
      rw [h32, e, Nat.add_zero]
      refine fb_ct_cong (fun u hu => ?_)
      rw [Bool.eq_iff_iff, hP u hu, sS_iff]
      constructor
      · rintro ⟨a, a1, a2, b, b1, b2, b3⟩
        exact ⟨a, a1, a2, by omega, by rw [show u - a = b by omega]; exact b2⟩
      · rintro ⟨a, a1, a2, a3, a4⟩
        have hb : u - a ≤ l := by
          rcases Nat.lt_or_ge l (u - a) with z | z
          · rw [hbig _ z] at a4; cases a4
          · exact z
        rcases Nat.le_total (u - a) a with z | z
        · exact ⟨a, a1, a2, u - a, z, a4, by omega⟩
        · exact ⟨u - a, by omega, a4, a, z, a2, by omega⟩) (q := ((0 : Int32), (0 : Int32), f)) ⟨rfl, fun _ => false, ⟨by
        rw [fb_ct_zero.mpr (fun _ _ => rfl)]; rfl, fun u hu => hf u hu⟩, fun u hu => by
        constructor
        · intro h; cases h
        · rintro ⟨a, a1, _⟩; omega⟩
    obtain ⟨t, h1, sm2, rfl⟩ := key
    exact ⟨sm2, h1⟩
  unfold fX8_ownSums
  obtain ⟨q2, h1, h2, h3⟩ := run_go (step := sX8_ownSums_2 (nI s) (nI l)) (2 * l + 1) (fun i q => q.1 = nI i ∧ ∀ v, v < i → q.2 v = 0) (by
    rintro i ⟨p, f⟩ hi ⟨rfl, hf⟩
    show ∃ q2, bX8_ownSums_2 (nI s) (nI l) (nI i) f = _ ∧ _
    unfold bX8_ownSums_2
    simp only [lt_]
    rw [show (2 : Int32) = nI 2 from rfl, pk_mul, brF (nI_nlt (by omega) (by omega)), nI_clamp (by omega), gd_eq ⟨nI_pos (by omega), by omega⟩]
    refine ⟨_, rfl, nI_1 i, fun v hv => ?_⟩
    show upd f i 0 v = 0
    by_cases e : v = i
    · subst e; exact pk_us
    · rw [pk_un e]; exact hf v (by omega)) (2 * l + 1) 0 ((0 : Int32), sm) (by omega) ⟨rfl, fun v hv => absurd hv (by omega)⟩
  obtain ⟨p, f⟩ := q2
  cases h2
  obtain ⟨sm2, e⟩ := loop f h3
  refine ⟨sm2, ?_⟩
  rw [h1]
  refine run_inr ?_
  show bX8_ownSums_2 (nI s) (nI l) (nI (2 * l + 1)) f = _
  unfold bX8_ownSums_2
  rw [show (2 : Int32) = nI 2 from rfl, pk_mul, brT (nI_lt (by omega) (by omega)), e]; rfl
