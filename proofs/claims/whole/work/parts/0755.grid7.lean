theorem gd7b {a b : Nat} (hab : a < b) (ha : a ≤ 63) (hb : b < 2 ^ 31) : fX7_greatestDivisor (nI a) (nI b) = some (nI (Nat.gcd b a)) := by
  unfold fX7_greatestDivisor
  have e : sX7_greatestDivisor_7 (nI a, nI b, (0 : Int32)) = some (.inl (nI b, nI a, nI 1)) := by
    show bX7_greatestDivisor_7 (nI a) (nI b) 0 = _
    unfold bX7_greatestDivisor_7
    simp only [lt_]
    rw [brF (by decide), brF (nI_ne0 (by omega) (by omega)), gd_eq (nI_ne0 (by omega) (by omega)), pk_rem (by omega) (by omega) (by omega), Nat.mod_eq_of_lt hab]
    rfl
  rw [run_inl e, gd7_run 63 1 b a (by omega) (by omega) hb (by omega), Nat.gcd_comm]
theorem tells7 {d e m n : Nat} (hd : 1 ≤ d) (hde : d < e) (hde2 : d + e ≤ 80) (hm : m ≤ 81) (hn : n ≤ 81) : ∃ r, fX0_tellsEachOnce (nI d) (nI e) (nI m) (nI n) = some r ∧ is01 r (onc d e m n) := by
  have hg : 0 < Nat.gcd e d := Nat.gcd_pos_of_pos_left _ (by omega)
  have hgl : Nat.gcd e d ≤ 80 := Nat.le_trans (Nat.gcd_le_left _ (by omega)) (by omega)
  have g0 : ¬ nI (Nat.gcd e d) = 0 := nI_ne0 (by omega) (by omega)
  have q1 : e / Nat.gcd e d ≤ e := Nat.div_le_self _ _
  have q2 : d / Nat.gcd e d ≤ d := Nat.div_le_self _ _
  have e28 : bX0_tellsEachOnce_28 = some 1 := by decide +kernel
  have e32 : bX0_tellsEachOnce_32 = some 0 := by decide +kernel
  unfold fX0_tellsEachOnce
  simp only [lt_]
  rw [bd_eq (gd7b hde (by omega) (by omega)), brF (nI_nle hg (by omega)), gd_eq g0, gd_eq g0, pk_div (by omega) hg (by omega), pk_div (by omega) hg (by omega), e28, e32]
  by_cases c1 : m ≤ e / Nat.gcd e d
  · rw [brT (nI_le c1 (by omega))]
    exact ⟨1, rfl, is01.yes (Or.inl c1)⟩
  · rw [brF (nI_ge (by omega) (by omega))]
    by_cases c2 : n ≤ d / Nat.gcd e d
    · rw [brF (nI_nlt c2 (by omega))]
      exact ⟨1, rfl, is01.yes (Or.inr c2)⟩
    · rw [brT (nI_lt (by omega) (by omega))]
      exact ⟨0, rfl, is01.no (fun z => by rcases z with z | z <;> omega)⟩
theorem reaches7 {d e m n sp w : Nat} (hd : d ≤ 80) (he : e ≤ 80) (hm : 1 ≤ m) (hm2 : m ≤ 81) (hn : 1 ≤ n) (hn2 : n ≤ 81) (hsp : sp ≤ 80) (hw : w ≤ 80) : ∃ r, fX0_reaches (nI d) (nI e) (nI m) (nI n) (nI sp) (nI w) = some r ∧ is01 r (sp ≤ (m - 1) * d + (n - 1) * e ∧ (m - 1) * d + (n - 1) * e ≤ w) := by
  have b1 : (m - 1) * d ≤ 81 * 80 := Nat.mul_le_mul (by omega) hd
  have b2 : (n - 1) * e ≤ 81 * 80 := Nat.mul_le_mul (by omega) he
  have e36 : bX0_reaches_36 (nI sp) (nI w) = some 0 := by unfold bX0_reaches_36; exact gd_eq (Or.inl rfl)
  unfold fX0_reaches
  rw [e36]
  simp only [lt_]
  have e1 : (nI m - 1) * nI d + (nI n - 1) * nI e = nI ((m - 1) * d + (n - 1) * e) := by
    rw [show (1 : Int32) = nI 1 from rfl, pk_sub (by omega), pk_sub (by omega), pk_mul, pk_mul, nI_add]
  rw [e1]
  by_cases c1 : (m - 1) * d + (n - 1) * e < sp
  · rw [brT (nI_lt c1 (by omega))]
    exact ⟨0, rfl, is01.no (by omega)⟩
  · rw [brF (nI_nlt (by omega) (by omega))]
    by_cases c2 : w < (m - 1) * d + (n - 1) * e
    · rw [brT (nI_lt c2 (by omega))]
      exact ⟨0, rfl, is01.no (by omega)⟩
    · rw [brF (nI_nlt (by omega) (by omega)), gd_eq (by decide)]
      exact ⟨1, rfl, is01.yes (by omega)⟩
theorem hasAll_49 {e n sp : Nat} (hsp : sp ≤ 40) (he : 1 ≤ e) (he2 : e ≤ 80) (hn : n ≤ 81) (row fb : Int64) : ∃ r, bX0_hasAll_40 (nI e) (nI n) row fb (nI sp) = some r ∧ is01 r (∀ v, v < 64 → bi fb v = true → ∃ j, j < n ∧ j * e ≤ sp ∧ j * e ≤ v ∧ bi row (v - j * e) = true) := by
  have fin : ∀ (j : Nat) (x : Int64), (∀ v, v < 64 → (bi x v = true ↔ (bi fb v = true ∧ ∀ j', j' < j → ¬ (j' * e ≤ v ∧ bi row (v - j' * e) = true)))) → (j = n ∨ (j < n ∧ sp < j * e)) → (∀ j', j' < j → j' * e ≤ sp) → ∃ r, bX0_hasAll_89 x fb (nI sp) = some r ∧ is01 r (∀ v, v < 64 → bi fb v = true → ∃ j, j < n ∧ j * e ≤ sp ∧ j * e ≤ v ∧ bi row (v - j * e) = true) := by
    intro j x hx hend hle
    unfold bX0_hasAll_89
    by_cases c : x = 0
    · rw [brT ((cmp_eq _ _).mpr c), gd_eq (Or.inr rfl)]
      refine ⟨1, rfl, is01.yes ?_⟩
      intro v hv hb
      refine Classical.byContradiction fun hne => ?_
      have := (hx v hv).mpr ⟨hb, fun j' hj' hc => hne ⟨j', by omega, hle j' hj', hc.1, hc.2⟩⟩
      rw [c, bi_0] at this
      cases this
    · rw [brF (fun z => c ((cmp_eq _ _).mp z)), gd_eq (Or.inl rfl)]
      refine ⟨0, rfl, is01.no ?_⟩
      intro hall
      refine c (bi_ext fun v hv => ?_)
      rw [bi_0]
      cases eb : bi x v with
      | false => rfl
      | true =>
        obtain ⟨h1, h2⟩ := (hx v hv).mp eb
        obtain ⟨j', j1, j2, j3, j4⟩ := hall v hv h1
        rcases Nat.lt_or_ge j' j with z | z
        · exact absurd ⟨j3, j4⟩ (h2 j' z)
        · rcases hend with he' | ⟨_, he'⟩
          · omega
          · have : j * e ≤ j' * e := Nat.mul_le_mul_right _ z
            omega
  unfold bX0_hasAll_40
  refine run_inv0 (step := sX0_hasAll_49 (nI e) (nI n) row fb (nI sp)) n (fun j q => q.2 = nI j ∧ (∀ j', j' < j → j' * e ≤ sp) ∧ ∀ v, v < 64 → (bi q.1 v = true ↔ (bi fb v = true ∧ ∀ j', j' < j → ¬ (j' * e ≤ v ∧ bi row (v - j' * e) = true)))) (fun r => is01 r (∀ v, v < 64 → bi fb v = true → ∃ j, j < n ∧ j * e ≤ sp ∧ j * e ≤ v ∧ bi row (v - j * e) = true)) ?_ ?_ ⟨rfl, fun j' hj => absurd hj (by omega), fun v hv => ⟨fun z => ⟨z, fun j' hj => absurd hj (by omega)⟩, fun z => z.1⟩⟩
  · rintro j ⟨x, p⟩ hj ⟨rfl, hle, hx⟩
    have hx : ∀ v, v < 64 → (bi x v = true ↔ (bi fb v = true ∧ ∀ j', j' < j → ¬ (j' * e ≤ v ∧ bi row (v - j' * e) = true))) := hx
    show (∃ q2, bX0_hasAll_49 (nI e) (nI n) row fb (nI sp) x (nI j) = _ ∧ _) ∨ (∃ t, bX0_hasAll_49 (nI e) (nI n) row fb (nI sp) x (nI j) = _ ∧ _)
    have hje : j * e ≤ 81 * 80 := Nat.mul_le_mul (by omega) he2
    unfold bX0_hasAll_49
    simp only [lt_]
    rw [brF (nI_ge hj (by omega)), pk_mul]
    by_cases c : sp < j * e
    · rw [brT (nI_lt c (by omega))]
      obtain ⟨r, r1, r2⟩ := fin j x hx (Or.inr ⟨hj, c⟩) hle
      rw [r1]
      exact Or.inr ⟨r, rfl, r2⟩
    · rw [brF (nI_nlt (by omega) (by omega))]
      refine Or.inl ⟨_, rfl, nI_1 j, fun j' hj' => ?_, fun v hv => ?_⟩
      · by_cases ej : j' = j
        · rw [ej]; omega
        · exact hle j' (by omega)
      · show bi (x &&& ((row <<< ((nI (j * e)).toInt64 &&& 63)) ^^^ (-1 : Int64))) v = true ↔ _
        rw [bi_and, bi_xor, bi_m1 hv, bi_shl row (by omega) hv, Bool.and_eq_true, hx v hv]
        constructor
        · rintro ⟨⟨h1, h2⟩, h3⟩
          refine ⟨h1, fun j' hj' hc => ?_⟩
          by_cases ej : j' = j
          · subst ej
            rw [decide_eq_true hc.1, hc.2] at h3
            cases h3
          · exact h2 j' (by omega) hc
        · rintro ⟨h1, h2⟩
          refine ⟨⟨h1, fun j' hj' => h2 j' (by omega)⟩, ?_⟩
          have h3 := h2 j (by omega)
          by_cases y1 : j * e ≤ v
          · cases y2 : bi row (v - j * e) with
            | false => rw [Bool.and_false]; rfl
            | true => exact absurd ⟨y1, y2⟩ h3
          · rw [decide_eq_false y1, Bool.false_and]; rfl
  · rintro ⟨x, p⟩ ⟨rfl, hle, hx⟩
    show ∃ t, bX0_hasAll_49 (nI e) (nI n) row fb (nI sp) x (nI n) = _ ∧ _
    unfold bX0_hasAll_49
    rw [brT (Int32.le_refl _)]
    obtain ⟨r, r1, r2⟩ := fin n x hx (Or.inl rfl) hle
    rw [r1]
    exact ⟨r, rfl, r2⟩
theorem hasAll7 {x : Int64} {a0 sp : Nat} (ha0 : a0 ≤ 40) (hsp : a0 + sp ≤ 40) (hlo : ∀ v, bi x v = true → a0 ≤ v ∧ v ≤ a0 + sp) {d e m n : Nat} (hd : 1 ≤ d) (hd2 : d ≤ 80) (he : 1 ≤ e) (he2 : e ≤ 80) (hm : m ≤ 81) (hn : n ≤ 81) {fb : Int64} (hfb : ∀ v, bi fb v = bi x (v + a0)) :
    ∃ r, fX0_hasAll (nI d) (nI e) (nI m) (nI n) fb (nI sp) = some r ∧ is01 r (cov (bi x) a0 d e m n) := by
  have fin : ∀ (i : Nat) (row : Int64), (∀ v, bi row v = true ↔ ∃ i', i' < i ∧ v = i' * d) → (∀ i', i' < i → i' * d ≤ sp) → (i = m ∨ (i < m ∧ sp < i * d)) → ∃ r, bX0_hasAll_40 (nI e) (nI n) row fb (nI sp) = some r ∧ is01 r (cov (bi x) a0 d e m n) := by
    intro i row hrow hle hend
    obtain ⟨r, r1, r2⟩ := hasAll_49 (e := e) (n := n) (sp := sp) (by omega) he he2 hn row fb
    refine ⟨r, r1, r2.congr ⟨?_, ?_⟩⟩
    · intro hall y hy hyb
      have hyy := hlo y hyb
      obtain ⟨j, j1, j2, j3, j4⟩ := hall (y - a0) (by omega) (by rw [hfb, show y - a0 + a0 = y by omega]; exact hyb)
      obtain ⟨i', i1, i2⟩ := (hrow _).mp j4
      exact ⟨i', j, by omega, j1, by omega⟩
    · intro hc v hv hb
      rw [hfb] at hb
      have hyy := hlo _ hb
      obtain ⟨i', j, i1, j1, h⟩ := hc (v + a0) (by omega) hb
      have hid : i' * d ≤ sp := by omega
      refine ⟨j, j1, by omega, by omega, (hrow _).mpr ⟨i', ?_, by omega⟩⟩
      rcases Nat.lt_or_ge i' i with z | z
      · exact z
      · rcases hend with z2 | ⟨_, z2⟩
        · omega
        · have : i * d ≤ i' * d := Nat.mul_le_mul_right _ z
          omega
  unfold fX0_hasAll
  refine run_inv0 (step := sX0_hasAll_6 (nI d) (nI e) (nI m) (nI n) fb (nI sp)) m (fun i q => q.2 = nI i ∧ (∀ i', i' < i → i' * d ≤ sp) ∧ ∀ v, bi q.1 v = true ↔ ∃ i', i' < i ∧ v = i' * d) (fun r => is01 r (cov (bi x) a0 d e m n)) ?_ ?_ ⟨rfl, fun i' hi => absurd hi (by omega), fun v => by
    show bi 0 v = true ↔ _
    rw [bi_0]
    constructor
    · intro z; cases z
    · rintro ⟨_, z, _⟩; omega⟩
  · rintro i ⟨row, p⟩ hi ⟨rfl, hle, hrow⟩
    have hrow : ∀ v, bi row v = true ↔ ∃ i', i' < i ∧ v = i' * d := hrow
    show (∃ q2, bX0_hasAll_6 (nI d) (nI e) (nI m) (nI n) fb (nI sp) row (nI i) = _ ∧ _) ∨ (∃ t, bX0_hasAll_6 (nI d) (nI e) (nI m) (nI n) fb (nI sp) row (nI i) = _ ∧ _)
    have hid : i * d ≤ 81 * 80 := Nat.mul_le_mul (by omega) hd2
    unfold bX0_hasAll_6
    simp only [lt_]
    rw [brF (nI_ge hi (by omega)), pk_mul]
    by_cases c : sp < i * d
    · rw [brT (nI_lt c (by omega))]
      obtain ⟨r, r1, r2⟩ := fin i row hrow hle (Or.inr ⟨hi, c⟩)
      rw [r1]
      exact Or.inr ⟨r, rfl, r2⟩
    · rw [brF (nI_nlt (by omega) (by omega))]
      refine Or.inl ⟨_, rfl, nI_1 i, fun i' hi' => ?_, fun v => ?_⟩
      · by_cases ej : i' = i
        · rw [ej]; omega
        · exact hle i' (by omega)
      · show bi (row ||| ((1 : Int64) <<< ((nI (i * d)).toInt64 &&& 63))) v = true ↔ _
        rw [bi_or, bi_one (by omega), Bool.or_eq_true, hrow, decide_eq_true_iff]
        constructor
        · rintro (⟨i', z1, z2⟩ | z)
          · exact ⟨i', by omega, z2⟩
          · exact ⟨i, by omega, z⟩
        · rintro ⟨i', z1, z2⟩
          by_cases ej : i' = i
          · subst ej; exact Or.inr z2
          · exact Or.inl ⟨i', by omega, z2⟩
  · rintro ⟨row, p⟩ ⟨rfl, hle, hrow⟩
    show ∃ t, bX0_hasAll_6 (nI d) (nI e) (nI m) (nI n) fb (nI sp) row (nI m) = _ ∧ _
    unfold bX0_hasAll_6
    rw [brT (Int32.le_refl _)]
    obtain ⟨r, r1, r2⟩ := fin m row hrow hle (Or.inl rfl)
    rw [r1]
    exact ⟨r, rfl, r2⟩
