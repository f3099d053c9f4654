theorem pos_s (d e m : Nat) : posn d e m + 1 = posn d e (m + 1) := by unfold posn; omega
theorem pos_win {d e m d' e' m' : Nat} (he : e ≤ 80) (he' : e' ≤ 80) (hm : m ≤ 82) (hm2 : 2 ≤ m') (hm' : m' ≤ 81) (h1 : ¬ posn d' e' m' < posn d e m) (h2 : posn d' e' m' < posn d (e + 1) 2) : d' = d ∧ e' = e ∧ m ≤ m' := by
  unfold posn at h1 h2
  have hd : d' = d := by
    rcases Nat.lt_trichotomy d' d with z | z | z
    · have : (d' + 1) * 16384 ≤ d * 16384 := Nat.mul_le_mul_right _ z
      omega
    · exact z
    · have : (d + 1) * 16384 ≤ d' * 16384 := Nat.mul_le_mul_right _ z
      omega
  subst hd
  have he2 : e' = e := by
    rcases Nat.lt_trichotomy e' e with z | z | z
    · have : (e' + 1) * 128 ≤ e * 128 := Nat.mul_le_mul_right _ z
      omega
    · exact z
    · have : (e + 1) * 128 ≤ e' * 128 := Nat.mul_le_mul_right _ z
      omega
  subst he2
  exact ⟨rfl, rfl, by omega⟩
theorem pos_win2 {d e d' e' m' : Nat} (hde : d < e) (he : e ≤ 80) (hde' : d' < e') (he' : e' ≤ 80) (hm2 : 2 ≤ m') (hm' : m' ≤ 81) (h1 : ¬ posn d' e' m' < posn d e 2) (h2 : posn d' e' m' < posn (d + 1) (d + 2) 2) : d' = d ∧ e ≤ e' := by
  unfold posn at h1 h2
  rcases Nat.lt_trichotomy d' d with z | z | z
  · have : (d' + 1) * 16384 ≤ d * 16384 := Nat.mul_le_mul_right _ z
    omega
  · subst z
    refine ⟨rfl, ?_⟩
    rcases Nat.lt_or_ge e' e with y | y
    · have : (e' + 1) * 128 ≤ e * 128 := Nat.mul_le_mul_right _ y
      omega
    · exact y
  · exfalso
    rcases Nat.lt_or_ge (d + 1) d' with y | y
    · have : (d + 1 + 1) * 16384 ≤ d' * 16384 := Nat.mul_le_mul_right _ y
      omega
    · have hd : d' = d + 1 := by omega
      subst hd
      have : (d + 2) * 128 ≤ e' * 128 := Nat.mul_le_mul_right _ (by omega)
      omega
theorem pos_lt3 {d d' e' m' R : Nat} (hR : R ≤ 80) (z : d' < d) (he' : e' ≤ R) (hm' : m' ≤ 81) : posn d' e' m' < posn d (R + 1) 2 := by
  unfold posn
  have : (d' + 1) * 16384 ≤ d * 16384 := Nat.mul_le_mul_right _ z
  omega
theorem pos_win3 {d d' e' m' R : Nat} (hR : R ≤ 80) (h1 : d' < e') (h2 : d' + e' ≤ R) (hm2 : 2 ≤ m') (hm' : m' ≤ 81) (hs : posn d' e' m' < posn (d + 1) (d + 2) 2) : posn d' e' m' < posn d (R + 1) 2 := by
  rcases Nat.lt_trichotomy d' d with z | z | z
  · exact pos_lt3 hR z (by omega) hm'
  · subst z
    have : (e' + 1) * 128 ≤ (R + 1) * 128 := Nat.mul_le_mul_right _ (by omega)
    clear hs
    unfold posn
    omega
  · exfalso
    unfold posn at hs
    rcases Nat.lt_or_ge (d + 1) d' with y | y
    · have : (d + 1 + 1) * 16384 ≤ d' * 16384 := Nat.mul_le_mul_right _ y
      omega
    · have hd : d' = d + 1 := by omega
      subst hd
      have : (d + 2) * 128 ≤ e' * 128 := Nat.mul_le_mul_right _ (by omega)
      omega
theorem fg40 {A : Nat → Bool} {fi : Nat → Int32} (hfi : ∀ x, x < 41 → A x = true → fi (fb_ct A x) = nI x) {a0 : Nat} (hf0 : fi 0 = nI a0) (hmin : ∀ x, x < 41 → A x = true → a0 ≤ x) {d e : Nat} (hd : 1 ≤ d) (hde : d < e) (he : d + e ≤ 80 - a0) {best : Int32} {g : Nat → Int32} (hI : GI A a0 (Sp (posn d e 2)) best g) :
    ∃ best2 g2, run (sX8_findGrid_40 (nI (fb_ct A 41)) (nI (80 - a0)) (nI d) (nI e) fi) (best, (2 : Int32), g) = some (.inl (best2, nI (e + 1), g2)) ∧ GI A a0 (Sp (posn d (e + 1) 2)) best2 g2 := by
  have fin : ∀ m, m ≤ 82 → 80 - a0 < (m - 1) * d + e → ∀ {b : Int32} {g : Nat → Int32}, GI A a0 (Sp (posn d e m)) b g → GI A a0 (Sp (posn d (e + 1) 2)) b g := by
    intro m hm hout b g hG
    refine hG.mono ?_ ?_
    · intro d' e' m' k' ho hs
      have bd := ho.bd
      show posn d' e' m' < posn d e m
      refine Classical.byContradiction fun hn => ?_
      obtain ⟨rfl, rfl, hmm⟩ := pos_win (by omega) (by omega) hm (by omega) (by omega) hn hs
      have h5 := ho.2.2.2.2.1
      have t1 : (m - 1) * d' ≤ (m' - 1) * d' := Nat.mul_le_mul_right _ (by omega)
      have t2 : 1 * e' ≤ (k' - 1) * e' := Nat.mul_le_mul_right _ (by omega)
      omega
    · intro d' e' m' k' ho hs
      have hs : posn d' e' m' < posn d e m := hs
      show posn d' e' m' < posn d (e + 1) 2
      have : posn d e m ≤ posn d (e + 1) 2 := by unfold posn; omega
      omega
  have key := run_inv0 (step := sX8_findGrid_40 (nI (fb_ct A 41)) (nI (80 - a0)) (nI d) (nI e) fi) 80 (fun i q => q.2.1 = nI (2 + i) ∧ GI A a0 (Sp (posn d e (2 + i))) q.1 q.2.2) (fun t => ∃ best2 g2, t = .inl (best2, nI (e + 1), g2) ∧ GI A a0 (Sp (posn d (e + 1) 2)) best2 g2) (by
    rintro i ⟨b, p, g⟩ hi ⟨rfl, hG⟩
    have hG : GI A a0 (Sp (posn d e (2 + i))) b g := hG
    show (∃ q2, bX8_findGrid_40 (nI (fb_ct A 41)) (nI (80 - a0)) (nI d) (nI e) fi b (nI (2 + i)) g = _ ∧ _) ∨ (∃ t, bX8_findGrid_40 (nI (fb_ct A 41)) (nI (80 - a0)) (nI d) (nI e) fi b (nI (2 + i)) g = _ ∧ _)
    unfold bX8_findGrid_40
    simp only [lt_]
    have hmd : (2 + i - 1) * d ≤ 81 * 80 := Nat.mul_le_mul (by omega) (by omega)
    have e1 : (nI (2 + i) - 1) * nI d + nI e = nI ((2 + i - 1) * d + e) := by
      rw [show (1 : Int32) = nI 1 from rfl, pk_sub (by omega), pk_mul, nI_add]
    rw [e1, nI_1]
    by_cases c1 : 80 - a0 < (2 + i - 1) * d + e
    · rw [brT (nI_lt c1 (by omega))]
      exact Or.inr ⟨_, rfl, b, g, rfl, fin (2 + i) (by omega) c1 hG⟩
    · rw [brF (nI_nlt (by omega) (by omega))]
      obtain ⟨b2, g2, r1, r2⟩ := fg57 hfi hf0 hmin hd hde he (m := 2 + i) (by omega) (by omega) hG
      rw [pos_s] at r2
      exact Or.inl ⟨_, r1, rfl, r2⟩) (by
    rintro ⟨b, p, g⟩ ⟨rfl, hG⟩
    have hG : GI A a0 (Sp (posn d e (2 + 80))) b g := hG
    show (∃ t, bX8_findGrid_40 (nI (fb_ct A 41)) (nI (80 - a0)) (nI d) (nI e) fi b (nI (2 + 80)) g = _ ∧ _)
    unfold bX8_findGrid_40
    simp only [lt_]
    have hmd : (2 + 80 - 1) * d ≤ 81 * 80 := Nat.mul_le_mul (by omega) (by omega)
    have hmd2 : 81 * 1 ≤ (2 + 80 - 1) * d := Nat.mul_le_mul (by omega) (by omega)
    have e1 : (nI (2 + 80) - 1) * nI d + nI e = nI ((2 + 80 - 1) * d + e) := by
      rw [show (1 : Int32) = nI 1 from rfl, pk_sub (by omega), pk_mul, nI_add]
    rw [e1, nI_1, brT (nI_lt (by omega) (by omega))]
    exact ⟨_, rfl, b, g, rfl, fin (2 + 80) (by omega) (by omega) hG⟩) (q := (best, (2 : Int32), g)) ⟨rfl, hI⟩
  obtain ⟨t, h1, b2, g2, rfl, h2⟩ := key
  exact ⟨b2, g2, h1, h2⟩
theorem fg28 {A : Nat → Bool} {fi : Nat → Int32} (hfi : ∀ x, x < 41 → A x = true → fi (fb_ct A x) = nI x) {a0 : Nat} (hf0 : fi 0 = nI a0) (hmin : ∀ x, x < 41 → A x = true → a0 ≤ x) {d : Nat} (hd : 1 ≤ d) (hd2 : d < 80 - a0) {best : Int32} {g : Nat → Int32} (hI : GI A a0 (Sp (posn d (d + 1) 2)) best g) :
    ∃ best2 g2, run (sX8_findGrid_28 (nI (fb_ct A 41)) (nI (80 - a0)) (nI d) fi) (best, nI (d + 1), g) = some (.inl (best2, nI (d + 1), g2)) ∧ GI A a0 (Sp (posn (d + 1) (d + 2) 2)) best2 g2 := by
  have fin : ∀ e, d < e → e ≤ 80 → 80 - a0 < d + e → ∀ {b : Int32} {g : Nat → Int32}, GI A a0 (Sp (posn d e 2)) b g → GI A a0 (Sp (posn (d + 1) (d + 2) 2)) b g := by
    intro e hde he hout b g hG
    refine hG.mono ?_ ?_
    · intro d' e' m' k' ho hs
      have bd := ho.bd
      show posn d' e' m' < posn d e 2
      refine Classical.byContradiction fun hn => ?_
      obtain ⟨rfl, hee⟩ := pos_win2 hde he (by omega) (by omega) (by omega) (by omega) hn hs
      omega
    · intro d' e' m' k' ho hs
      have hs : posn d' e' m' < posn d e 2 := hs
      show posn d' e' m' < posn (d + 1) (d + 2) 2
      have : posn d e 2 ≤ posn (d + 1) (d + 2) 2 := by unfold posn; omega
      omega
  have key := run_inv0 (step := sX8_findGrid_28 (nI (fb_ct A 41)) (nI (80 - a0)) (nI d) fi) (80 - a0 - d) (fun i q => q.2.1 = nI (d + 1 + i) ∧ GI A a0 (Sp (posn d (d + 1 + i) 2)) q.1 q.2.2) (fun t => ∃ best2 g2, t = .inl (best2, nI (d + 1), g2) ∧ GI A a0 (Sp (posn (d + 1) (d + 2) 2)) best2 g2) (by
    rintro i ⟨b, p, g⟩ hi ⟨rfl, hG⟩
    have hG : GI A a0 (Sp (posn d (d + 1 + i) 2)) b g := hG
    show (∃ q2, bX8_findGrid_28 (nI (fb_ct A 41)) (nI (80 - a0)) (nI d) fi b (nI (d + 1 + i)) g = _ ∧ _) ∨ (∃ t, bX8_findGrid_28 (nI (fb_ct A 41)) (nI (80 - a0)) (nI d) fi b (nI (d + 1 + i)) g = _ ∧ _)
    unfold bX8_findGrid_28
    simp only [lt_]
    rw [nI_add, nI_1]
    by_cases c1 : 80 - a0 < d + (d + 1 + i)
    · rw [brT (nI_lt c1 (by omega))]
      exact Or.inr ⟨_, rfl, b, g, rfl, fin (d + 1 + i) (by omega) (by omega) c1 hG⟩
    · rw [brF (nI_nlt (by omega) (by omega))]
      obtain ⟨b2, g2, r1, r2⟩ := fg40 hfi hf0 hmin hd (e := d + 1 + i) (by omega) (by omega) hG
      exact Or.inl ⟨_, r1, rfl, r2⟩) (by
    rintro ⟨b, p, g⟩ ⟨rfl, hG⟩
    have hG : GI A a0 (Sp (posn d (d + 1 + (80 - a0 - d)) 2)) b g := hG
    rw [show d + 1 + (80 - a0 - d) = 80 - a0 + 1 by omega] at hG
    show (∃ t, bX8_findGrid_28 (nI (fb_ct A 41)) (nI (80 - a0)) (nI d) fi b (nI (d + 1 + (80 - a0 - d))) g = _ ∧ _)
    rw [show d + 1 + (80 - a0 - d) = 80 - a0 + 1 by omega]
    unfold bX8_findGrid_28
    simp only [lt_]
    rw [nI_add, nI_1, brT (nI_lt (by omega) (by omega))]
    refine ⟨_, rfl, b, g, rfl, ?_⟩
    refine hG.mono ?_ ?_
    · intro d' e' m' k' ho hs
      have bd := ho.bd
      show posn d' e' m' < posn d (80 - a0 + 1) 2
      have hs : posn d' e' m' < posn (d + 1) (d + 2) 2 := hs
      exact pos_win3 (by omega) (by omega) (by omega) (by omega) (by omega) hs
    · intro d' e' m' k' ho hs
      have hs : posn d' e' m' < posn d (80 - a0 + 1) 2 := hs
      show posn d' e' m' < posn (d + 1) (d + 2) 2
      have : posn d (80 - a0 + 1) 2 ≤ posn (d + 1) (d + 2) 2 := by unfold posn; omega
      omega) (q := (best, nI (d + 1), g)) ⟨rfl, hI⟩
  obtain ⟨t, h1, b2, g2, rfl, h2⟩ := key
  exact ⟨b2, g2, h1, h2⟩
theorem findGrid8 {A : Nat → Bool} {fi : Nat → Int32} (hfi : ∀ x, x < 41 → A x = true → fi (fb_ct A x) = nI x) {a0 : Nat} (ha0 : a0 ≤ 40) (hf0 : fi 0 = nI a0) (hmin : ∀ x, x < 41 → A x = true → a0 ≤ x) (g : Nat → Int32) :
    ∃ r g2, fX8_findGrid (nI (fb_ct A 41)) fi g = some (r, g2) ∧ g2 0 = nI a0 ∧ ((r = 0 ∧ ∀ d e m k, ¬ OKg A a0 d e m k) ∨ (r = 1 ∧ ∃ d e m k, g2 1 = nI d ∧ g2 2 = nI e ∧ g2 3 = nI m ∧ g2 4 = nI k ∧ BestG A a0 d e m k)) := by
  unfold fX8_findGrid
  simp only [lt_]
  have z0 : (0 : Int32).toNatClampNeg = 0 := by decide
  rw [gd_eq (by decide), z0, hf0, show (80 : Int32) = nI 80 from rfl, pk_sub (by omega)]
  have key := run_inv0 (step := sX8_findGrid_16 (nI (fb_ct A 41)) (nI (80 - a0)) fi) (80 - a0 - 1) (fun i q => q.2.1 = nI (1 + i) ∧ GI A a0 (Sp (posn (1 + i) (1 + i + 1) 2)) q.1 q.2.2) (fun t => ∃ r g2, t = (r, g2) ∧ g2 0 = nI a0 ∧ ((r = 0 ∧ ∀ d e m k, ¬ OKg A a0 d e m k) ∨ (r = 1 ∧ ∃ d e m k, g2 1 = nI d ∧ g2 2 = nI e ∧ g2 3 = nI m ∧ g2 4 = nI k ∧ BestG A a0 d e m k))) (by
    rintro i ⟨b, p, g⟩ hi ⟨rfl, hG⟩
    have hG : GI A a0 (Sp (posn (1 + i) (1 + i + 1) 2)) b g := hG
    show (∃ q2, bX8_findGrid_16 (nI (fb_ct A 41)) (nI (80 - a0)) fi b (nI (1 + i)) g = _ ∧ _) ∨ _
    unfold bX8_findGrid_16
    simp only [lt_]
    rw [brF (nI_ge (by omega) (by omega)), nI_1]
    obtain ⟨b2, g2, r1, r2⟩ := fg28 hfi hf0 hmin (d := 1 + i) (by omega) (by omega) hG
    exact Or.inl ⟨_, r1, rfl, r2⟩) (by
    rintro ⟨b, p, g⟩ ⟨rfl, hG⟩
    have hG : GI A a0 (Sp (posn (1 + (80 - a0 - 1)) (1 + (80 - a0 - 1) + 1) 2)) b g := hG
    rw [show 1 + (80 - a0 - 1) = 80 - a0 by omega] at hG
    show ∃ t, bX8_findGrid_16 (nI (fb_ct A 41)) (nI (80 - a0)) fi b (nI (1 + (80 - a0 - 1))) g = _ ∧ _
    rw [show 1 + (80 - a0 - 1) = 80 - a0 by omega]
    have all : ∀ d e m k, OKg A a0 d e m k → Sp (posn (80 - a0) (80 - a0 + 1) 2) d e m k := by
      intro d e m k ho
      have bd := ho.bd
      show posn d e m < posn (80 - a0) (80 - a0 + 1) 2
      unfold posn
      have : (d + 1) * 16384 ≤ (80 - a0) * 16384 := Nat.mul_le_mul_right _ (by omega)
      omega
    unfold bX8_findGrid_16
    simp only [lt_]
    rw [brT (Int32.le_refl _), gd_eq (by decide), gd_eq (by decide), z0, hf0]
    rcases hG with ⟨hb, hn⟩ | ⟨d, e, m, k, hb, g1, g2, g3, g4, ho, hs, hm⟩
    · rw [hb, brT (Int32.le_refl _), gd_eq (Or.inl trivial)]
      exact ⟨_, rfl, 0, _, rfl, pk_us, Or.inl ⟨rfl, fun d e m k ho => hn d e m k ho (all d e m k ho)⟩⟩
    · have ha := ho.area_le
      rw [hb, brF (show ¬ (1000000 : Int32) ≤ nI (m * k) from nI_ge (b := 1000000) (by omega) (by omega)), gd_eq (Or.inr trivial)]
      refine ⟨_, rfl, 1, _, rfl, pk_us, Or.inr ⟨rfl, d, e, m, k, ?_, ?_, ?_, ?_, ho, fun d' e' m' k' ho' => hm d' e' m' k' ho' (all d' e' m' k' ho')⟩⟩
      · rw [pk_un (by omega)]; exact g1
      · rw [pk_un (by omega)]; exact g2
      · rw [pk_un (by omega)]; exact g3
      · rw [pk_un (by omega)]; exact g4) (q := ((1000000 : Int32), (1 : Int32), g)) ⟨rfl, Or.inl ⟨rfl, fun d e m k ho hs => by
      have bd := ho.bd
      have hs : posn d e m < posn 1 2 2 := hs
      unfold posn at hs
      have : 1 * 16384 ≤ d * 16384 := Nat.mul_le_mul_right _ (by omega)
      have : 2 * 128 ≤ e * 128 := Nat.mul_le_mul_right _ (by omega)
      omega⟩⟩
  obtain ⟨t, h1, r, g2, rfl, h2, h3⟩ := key
  exact ⟨r, g2, h1, h2, h3⟩
