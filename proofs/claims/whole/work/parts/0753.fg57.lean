def GI (A : Nat → Bool) (a0 : Nat) (S : Nat → Nat → Nat → Nat → Prop) (best : Int32) (g : Nat → Int32) : Prop :=
  (best = 1000000 ∧ ∀ d e m k, OKg A a0 d e m k → ¬ S d e m k) ∨ (∃ d e m k, best = nI (m * k) ∧ g 1 = nI d ∧ g 2 = nI e ∧ g 3 = nI m ∧ g 4 = nI k ∧ OKg A a0 d e m k ∧ S d e m k ∧ ∀ d' e' m' k', OKg A a0 d' e' m' k' → S d' e' m' k' → keyn d e m k ≤ keyn d' e' m' k')
theorem GI.mono {A : Nat → Bool} {a0 : Nat} {S S' : Nat → Nat → Nat → Nat → Prop} {best : Int32} {g : Nat → Int32} (h : GI A a0 S best g) (h1 : ∀ d e m k, OKg A a0 d e m k → S' d e m k → S d e m k) (h2 : ∀ d e m k, OKg A a0 d e m k → S d e m k → S' d e m k) : GI A a0 S' best g := by
  rcases h with ⟨b, hn⟩ | ⟨d, e, m, k, b, g1, g2, g3, g4, ho, hs, hm⟩
  · exact Or.inl ⟨b, fun d e m k ho hs => hn d e m k ho (h1 d e m k ho hs)⟩
  · exact Or.inr ⟨d, e, m, k, b, g1, g2, g3, g4, ho, h2 d e m k ho hs, fun d' e' m' k' ho' hs' => hm d' e' m' k' ho' (h1 d' e' m' k' ho' hs')⟩
def Sp (P : Nat) : Nat → Nat → Nat → Nat → Prop := fun d e m _ => posn d e m < P
def Sk (P K : Nat) : Nat → Nat → Nat → Nat → Prop := fun d e m k => posn d e m < P ∨ (posn d e m = P ∧ k < K)
theorem pos_eq {d e m d' e' m' : Nat} (he : e ≤ 80) (he' : e' ≤ 80) (hm : m ≤ 82) (hm' : m' ≤ 82) (h : posn d e m = posn d' e' m') : d = d' ∧ e = e' ∧ m = m' := by
  unfold posn at h
  rw [Nat.add_assoc, Nat.add_assoc] at h
  obtain ⟨u1, u2⟩ := sp_eq (N := 16384) (by omega) (by omega) h
  obtain ⟨u3, u4⟩ := sp_eq (N := 128) (by omega) (by omega) u2
  exact ⟨u1, u3, u4⟩
theorem key_le {d e m k d' e' m' k' : Nat} (ha : m * k ≤ m' * k') (hp : posn d e m ≤ posn d' e' m') : keyn d e m k ≤ keyn d' e' m' k' := by
  unfold keyn
  exact Nat.add_le_add (Nat.mul_le_mul_right _ ha) hp
theorem key_lt {A : Nat → Bool} {a0 d e m k d' e' m' k' : Nat} (h : OKg A a0 d e m k) (ha : m * k < m' * k') : keyn d e m k ≤ keyn d' e' m' k' := by
  have b := h.bd
  unfold keyn
  have h1 : posn d e m < 2097152 := pos_lt (by omega) (by omega) (by omega)
  have h2 : (m * k + 1) * 2097152 ≤ m' * k' * 2097152 := Nat.mul_le_mul_right _ ha
  rw [Nat.add_mul, Nat.one_mul] at h2
  exact Nat.le_trans (Nat.le_of_lt (Nat.add_lt_add_left h1 _)) (Nat.le_trans h2 (Nat.le_add_right _ _))
theorem fg57 {A : Nat → Bool} {fi : Nat → Int32} (hfi : ∀ x, x < 41 → A x = true → fi (fb_ct A x) = nI x) {a0 : Nat} (hf0 : fi 0 = nI a0) (hmin : ∀ x, x < 41 → A x = true → a0 ≤ x) {d e m : Nat} (hd : 1 ≤ d) (hde : d < e) (he : d + e ≤ 80 - a0) (hm : 2 ≤ m) (hme : (m - 1) * d + e ≤ 80 - a0) {best : Int32} {g : Nat → Int32} (hI : GI A a0 (Sp (posn d e m)) best g) :
    ∃ best2 g2, run (sX8_findGrid_57 (nI (fb_ct A 41)) (nI (80 - a0)) (nI d) (nI e) (nI m) fi) (best, (2 : Int32), g) = some (.inl (best2, nI (m + 1), g2)) ∧ GI A a0 (Sp (posn d e m + 1)) best2 g2 := by
  have hm1 : m - 1 ≤ (m - 1) * d := Nat.le_mul_of_pos_right _ (by omega)
  have hm81 : m ≤ 81 := by omega
  have key := run_inv0 (step := sX8_findGrid_57 (nI (fb_ct A 41)) (nI (80 - a0)) (nI d) (nI e) (nI m) fi) 80 (fun i q => q.2.1 = nI (2 + i) ∧ GI A a0 (Sk (posn d e m) (2 + i)) q.1 q.2.2) (fun t => ∃ best2 g2, t = .inl (best2, nI (m + 1), g2) ∧ GI A a0 (Sp (posn d e m + 1)) best2 g2) (by
    rintro i ⟨b, p, g⟩ hi ⟨rfl, hG⟩
    have hG : GI A a0 (Sk (posn d e m) (2 + i)) b g := hG
    show (∃ q2, bX8_findGrid_57 (nI (fb_ct A 41)) (nI (80 - a0)) (nI d) (nI e) (nI m) fi b (nI (2 + i)) g = _ ∧ _) ∨ (∃ t, bX8_findGrid_57 (nI (fb_ct A 41)) (nI (80 - a0)) (nI d) (nI e) (nI m) fi b (nI (2 + i)) g = _ ∧ _)
    unfold bX8_findGrid_57 bX8_findGrid_145 bX8_findGrid_139
    simp only [lt_]
    have hke : (2 + i - 1) * e ≤ 81 * 80 := Nat.mul_le_mul (by omega) (by omega)
    have hmk : m * (2 + i) ≤ 81 * 81 := Nat.mul_le_mul (by omega) (by omega)
    have e1 : (nI m - 1) * nI d + (nI (2 + i) - 1) * nI e = nI ((m - 1) * d + (2 + i - 1) * e) := by
      rw [show (1 : Int32) = nI 1 from rfl, pk_sub (by omega), pk_sub (by omega), pk_mul, pk_mul, nI_add]
    rw [e1, pk_mul, nI_1, nI_1]
    by_cases c1 : 80 - a0 < (m - 1) * d + (2 + i - 1) * e
    · rw [brT (nI_lt c1 (by omega))]
      refine Or.inr ⟨_, rfl, b, g, rfl, hG.mono ?_ ?_⟩
      · intro d' e' m' k' ho hs
        have hs : posn d' e' m' < posn d e m + 1 := hs
        have bd := ho.bd
        by_cases hp : posn d' e' m' = posn d e m
        · obtain ⟨rfl, rfl, rfl⟩ := pos_eq (by omega) (by omega) (by omega) (by omega) hp
          refine Or.inr ⟨rfl, ?_⟩
          rcases Nat.lt_or_ge k' (2 + i) with z | z
          · exact z
          · have h5 := ho.2.2.2.2.1
            have : (2 + i - 1) * e' ≤ (k' - 1) * e' := Nat.mul_le_mul_right _ (by omega)
            omega
        · exact Or.inl (by omega)
      · intro d' e' m' k' ho hs
        show posn d' e' m' < posn d e m + 1
        rcases hs with z | ⟨z, _⟩ <;> omega
    · rw [brF (nI_nlt (by omega) (by omega))]
      by_cases c2 : b ≤ nI (m * (2 + i))
      · rw [brT c2]
        refine Or.inr ⟨_, rfl, b, g, rfl, ?_⟩
        rcases hG with ⟨hb, _⟩ | ⟨d0, e0, m0, k0, hb, g1, g2, g3, g4, ho, hs, hm'⟩
        · exfalso
          rw [hb] at c2
          exact nI_ge (b := 1000000) (by omega) (by omega) c2
        · have bd0 := ho.bd
          have ha0 := ho.area_le
          rw [hb] at c2
          have c3 : m0 * k0 ≤ m * (2 + i) := by
            rcases Nat.lt_or_ge (m * (2 + i)) (m0 * k0) with z | z
            · exact absurd c2 (nI_ge z (by omega))
            · exact z
          refine Or.inr ⟨d0, e0, m0, k0, hb, g1, g2, g3, g4, ho, ?_, ?_⟩
          · show posn d0 e0 m0 < posn d e m + 1
            rcases hs with z | ⟨z, _⟩ <;> omega
          · intro d' e' m' k' ho' hs'
            have hs' : posn d' e' m' < posn d e m + 1 := hs'
            have bd' := ho'.bd
            by_cases hp : posn d' e' m' = posn d e m
            · by_cases hk' : k' < 2 + i
              · exact hm' d' e' m' k' ho' (Or.inr ⟨hp, hk'⟩)
              · obtain ⟨q1, q2, q3⟩ := pos_eq (by omega) (by omega) (by omega) (by omega) hp
                refine key_le ?_ ?_
                · rw [q3]
                  exact Nat.le_trans c3 (Nat.mul_le_mul_left m (by omega))
                · rcases hs with z | ⟨z, _⟩ <;> omega
            · exact hm' d' e' m' k' ho' (Or.inl (by omega))
      · rw [brF c2]
        obtain ⟨r, r1, r2⟩ := isGrid8 hfi hf0 hmin (d := d) (e := e) (m := m) (k := 2 + i) hd (by omega) (by omega) (by omega) hm81 (by omega)
        rw [bd_eq r1]
        have k1 : (1 : Int32).toNatClampNeg = 1 := by decide
        have k2 : (2 : Int32).toNatClampNeg = 2 := by decide
        have k3 : (3 : Int32).toNatClampNeg = 3 := by decide
        have k4 : (4 : Int32).toNatClampNeg = 4 := by decide
        by_cases r0 : r = 0
        · rw [brT r0]
          refine Or.inl ⟨_, rfl, rfl, ?_⟩
          have hnot : ¬ OKg A a0 d e m (2 + i) := fun ho => r2.ne.mpr ho.2.2.2.2.2 r0
          refine hG.mono ?_ ?_
          · intro d' e' m' k' ho hs
            have bd := ho.bd
            rcases hs with z | ⟨z, z2⟩
            · exact Or.inl z
            · obtain ⟨rfl, rfl, rfl⟩ := pos_eq (by omega) (by omega) (by omega) (by omega) z
              by_cases ek : k' = 2 + i
              · rw [ek] at ho; exact absurd ho hnot
              · exact Or.inr ⟨rfl, by omega⟩
          · intro d' e' m' k' ho hs
            rcases hs with z | ⟨z, z2⟩
            · exact Or.inl z
            · exact Or.inr ⟨z, by omega⟩
        · rw [brF r0, gd_eq (by decide), gd_eq (by decide), gd_eq (by decide), gd_eq (by decide), k1, k2, k3, k4]
          refine Or.inl ⟨_, rfl, rfl, ?_⟩
          have hok : OKg A a0 d e m (2 + i) := ⟨hd, hde, hm, by omega, by omega, r2.ne.mp r0⟩
          refine Or.inr ⟨d, e, m, 2 + i, rfl, ?_, ?_, ?_, ?_, hok, Or.inr ⟨rfl, by omega⟩, ?_⟩
          · show upd (upd (upd (upd g 1 (nI d)) 2 (nI e)) 3 (nI m)) 4 (nI (2 + i)) 1 = nI d
            rw [pk_un (by omega), pk_un (by omega), pk_un (by omega), pk_us]
          · show upd (upd (upd (upd g 1 (nI d)) 2 (nI e)) 3 (nI m)) 4 (nI (2 + i)) 2 = nI e
            rw [pk_un (by omega), pk_un (by omega), pk_us]
          · show upd (upd (upd (upd g 1 (nI d)) 2 (nI e)) 3 (nI m)) 4 (nI (2 + i)) 3 = nI m
            rw [pk_un (by omega), pk_us]
          · exact (pk_us : upd (upd (upd (upd g 1 (nI d)) 2 (nI e)) 3 (nI m)) 4 (nI (2 + i)) 4 = nI (2 + i))
          · intro d' e' m' k' ho hs
            have bd := ho.bd
            have hold : Sk (posn d e m) (2 + i) d' e' m' k' → keyn d e m (2 + i) ≤ keyn d' e' m' k' := by
              intro hs2
              rcases hG with ⟨_, hn⟩ | ⟨d0, e0, m0, k0, hb, _, _, _, _, ho0, _, hm'⟩
              · exact absurd hs2 (hn d' e' m' k' ho)
              · have ha0 := ho0.area_le
                have hlt : m * (2 + i) < m0 * k0 := by
                  rcases Nat.lt_or_ge (m * (2 + i)) (m0 * k0) with z | z
                  · exact z
                  · exact absurd (by rw [hb]; exact nI_le z (by omega)) c2
                exact Nat.le_trans (key_lt hok hlt) (hm' d' e' m' k' ho hs2)
            rcases hs with z | ⟨z, z2⟩
            · exact hold (Or.inl z)
            · by_cases ek : k' = 2 + i
              · obtain ⟨rfl, rfl, rfl⟩ := pos_eq (by omega) (by omega) (by omega) (by omega) z
                rw [ek]; exact Nat.le_refl _
              · exact hold (Or.inr ⟨z, by omega⟩)) (by
    rintro ⟨b, p, g⟩ ⟨rfl, hG⟩
    have hG : GI A a0 (Sk (posn d e m) (2 + 80)) b g := hG
    show (∃ t, bX8_findGrid_57 (nI (fb_ct A 41)) (nI (80 - a0)) (nI d) (nI e) (nI m) fi b (nI (2 + 80)) g = _ ∧ _)
    unfold bX8_findGrid_57 bX8_findGrid_145
    simp only [lt_]
    have hke2 : 81 * 1 ≤ (2 + 80 - 1) * e := Nat.mul_le_mul (by omega) (by omega)
    have hke : (2 + 80 - 1) * e ≤ 81 * 80 := Nat.mul_le_mul (by omega) (by omega)
    have e1 : (nI m - 1) * nI d + (nI (2 + 80) - 1) * nI e = nI ((m - 1) * d + (2 + 80 - 1) * e) := by
      rw [show (1 : Int32) = nI 1 from rfl, pk_sub (by omega), pk_sub (by omega), pk_mul, pk_mul, nI_add]
    rw [e1, brT (nI_lt (by omega) (by omega)), nI_1]
    refine ⟨_, rfl, b, g, rfl, hG.mono ?_ ?_⟩
    · intro d' e' m' k' ho hs
      have hs : posn d' e' m' < posn d e m + 1 := hs
      have bd := ho.bd
      by_cases hp : posn d' e' m' = posn d e m
      · exact Or.inr ⟨hp, by omega⟩
      · exact Or.inl (by omega)
    · intro d' e' m' k' ho hs
      show posn d' e' m' < posn d e m + 1
      rcases hs with z | ⟨z, _⟩ <;> omega) (q := (best, (2 : Int32), g)) ⟨rfl, hI.mono (fun d' e' m' k' ho hs => by
      have bd := ho.bd
      rcases hs with z | ⟨z, z2⟩
      · exact z
      · omega) (fun d' e' m' k' ho hs => Or.inl hs)⟩
  obtain ⟨t, h1, b2, g2, rfl, h2⟩ := key
  exact ⟨b2, g2, h1, h2⟩
