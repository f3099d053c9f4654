/-! the class's grids: lengths of one area -/
def fF (ar m : Nat) : Bool := decide (2 ≤ m) && (decide (2 * m ≤ ar) && decide (ar % m = 0))
theorem fF_iff {ar m : Nat} : fF ar m = true ↔ 2 ≤ m ∧ 2 * m ≤ ar ∧ ar % m = 0 := by
  unfold fF
  rw [Bool.and_eq_true, Bool.and_eq_true, decide_eq_true_iff, decide_eq_true_iff, decide_eq_true_iff]
theorem fF_fin1 : ∀ ar, ar < 82 → fb_ct (fF ar) 41 ≤ 10 ∧ fb_ct (fF ar) (ar / 2 + 1) = fb_ct (fF ar) 41 := by decide +kernel
theorem fF_fin2 : ∀ ar, ar < 82 → ∀ m, m < 41 → fF ar m = true → fF ar (ar / m) = true ∧ ar / m < 41 ∧ fb_ct (fF ar) (ar / m) = fb_ct (fF ar) 41 - 1 - fb_ct (fF ar) m := by decide +kernel
theorem listF {ar : Nat} (h4 : 4 ≤ ar) (h : ar ≤ 81) (g : Nat → Int32) : ∃ g2, fX0_listFactors (nI ar) g = some (nI (fb_ct (fF ar) 41), g2) ∧ ∀ m, m < 41 → fF ar m = true → g2 (fb_ct (fF ar) m) = nI m := by
  obtain ⟨c10, cend⟩ := fF_fin1 ar (by omega)
  unfold fX0_listFactors
  have key := run_inv0 (step := sX0_listFactors_4 (nI ar)) (ar / 2 - 1) (fun i q => q.1 = nI (fb_ct (fF ar) (2 + i)) ∧ q.2.1 = nI (2 + i) ∧ ∀ m, m < 2 + i → fF ar m = true → q.2.2 (fb_ct (fF ar) m) = nI m) (fun t => t.1 = nI (fb_ct (fF ar) 41) ∧ ∀ m, m < 41 → fF ar m = true → t.2 (fb_ct (fF ar) m) = nI m) (by
    rintro i ⟨c, p, g⟩ hi ⟨rfl, rfl, hg⟩
    have hg : ∀ m, m < 2 + i → fF ar m = true → g (fb_ct (fF ar) m) = nI m := hg
    show (∃ q2, bX0_listFactors_4 (nI ar) (nI (fb_ct (fF ar) (2 + i))) (nI (2 + i)) g = _ ∧ _) ∨ _
    left
    unfold bX0_listFactors_4 bX0_listFactors_33
    simp only [lt_]
    have hc : fb_ct (fF ar) (2 + i) ≤ 2 + i := fb_ct_le _ _
    rw [show (2 : Int32) = nI 2 from rfl, pk_mul, brF (nI_nlt (by omega) (by omega)), gd_eq (nI_ne0 (by omega) (by omega)), pk_rem (by omega) (by omega) (by omega)]
    by_cases hr : ar % (2 + i) = 0
    · have hf : fF ar (2 + i) = true := fF_iff.mpr ⟨by omega, by omega, hr⟩
      have hlt : fb_ct (fF ar) (2 + i) < fb_ct (fF ar) 41 := ct_lt (by omega) hf
      rw [brT (show nI (ar % (2 + i)) = 0 by rw [hr]; rfl), brF (show ¬ (10 : Int32) ≤ nI (fb_ct (fF ar) (2 + i)) from nI_ge (b := 10) (by omega) (by omega)), nI_clamp (by omega), gd_eq ⟨nI_pos (by omega), by omega⟩]
      refine ⟨_, rfl, ?_, nI_1 _, ?_⟩
      · show nI _ + 1 = _
        rw [nI_1, show 2 + (i + 1) = 2 + i + 1 by omega, fb_ct_succ, if_pos hf]
      · intro m hm hfm
        show upd g (fb_ct (fF ar) (2 + i)) (nI (2 + i)) (fb_ct (fF ar) m) = nI m
        by_cases e : m = 2 + i
        · subst e; exact pk_us
        · have : fb_ct (fF ar) m < fb_ct (fF ar) (2 + i) := ct_lt (by omega) hfm
          rw [pk_un (by omega)]
          exact hg m (by omega) hfm
    · have hr2 : ar % (2 + i) < 2 + i := Nat.mod_lt _ (by omega)
      rw [brF (nI_ne0 (by omega) (by omega))]
      have hf : ¬ fF ar (2 + i) = true := fun z => hr (fF_iff.mp z).2.2
      refine ⟨_, rfl, ?_, nI_1 _, ?_⟩
      · show nI _ = _
        rw [show 2 + (i + 1) = 2 + i + 1 by omega, fb_ct_succ, if_neg hf, Nat.add_zero]
      · intro m hm hfm
        by_cases e : m = 2 + i
        · subst e; exact absurd hfm hf
        · exact hg m (by omega) hfm) (by
    rintro ⟨c, p, g⟩ ⟨rfl, rfl, hg⟩
    have hg : ∀ m, m < 2 + (ar / 2 - 1) → fF ar m = true → g (fb_ct (fF ar) m) = nI m := hg
    show ∃ t, bX0_listFactors_4 (nI ar) (nI (fb_ct (fF ar) (2 + (ar / 2 - 1)))) (nI (2 + (ar / 2 - 1))) g = _ ∧ _
    rw [show 2 + (ar / 2 - 1) = ar / 2 + 1 by omega] at hg ⊢
    unfold bX0_listFactors_4
    rw [show (2 : Int32) = nI 2 from rfl, pk_mul, brT (nI_lt (by omega) (by omega)), cend]
    refine ⟨_, rfl, rfl, ?_⟩
    intro m hm hfm
    exact hg m (by have := fF_iff.mp hfm; omega) hfm) (q := ((0 : Int32), (2 : Int32), g)) ⟨by
      show (0 : Int32) = nI (fb_ct (fF ar) 2)
      rw [fb_ct_zero.mpr (fun k hk => ?_)]
      · rfl
      · refine ts_nt (fun z => ?_)
        have := fF_iff.mp z
        omega, rfl, fun m hm hf => by have := fF_iff.mp hf; omega⟩
  obtain ⟨⟨c, g2⟩, h1, h2, h3⟩ := key
  have h2 : c = nI (fb_ct (fF ar) 41) := h2
  rw [h2] at h1
  exact ⟨g2, h1, h3⟩
theorem OKg.fac {A : Nat → Bool} {a0 d e m k ar : Nat} (h : OKg A a0 d e m k) (ha : m * k = ar) (h81 : ar ≤ 81) : fF ar m = true ∧ m < 41 ∧ ar / m = k := by
  have bd := h.bd
  have h2 : m * 2 ≤ m * k := Nat.mul_le_mul_left m (by omega)
  refine ⟨fF_iff.mpr ⟨by omega, by omega, ?_⟩, by omega, ?_⟩
  · rw [← ha, Nat.mul_mod_right]
  · rw [← ha, Nat.mul_div_cancel_left _ (by omega)]
theorem seekLen {x : Int64} {a0 sp : Nat} (ha0 : a0 ≤ 40) (hsp : a0 + sp ≤ 40) (hlo : ∀ v, bi x v = true → a0 ≤ v ∧ v ≤ a0 + sp) (htop : bi x (a0 + sp) = true) {fb : Int64} (hfb : ∀ v, bi fb v = bi x (v + a0)) {ar : Nat} (h81 : ar ≤ 81) {g : Nat → Int32} (hg : ∀ m, m < 41 → fF ar m = true → g (fb_ct (fF ar) m) = nI m) {d e : Nat} (hd : 1 ≤ d) (hde : d < e) (hw : d + e ≤ 80 - a0) (f1 f2 f3 f4 : Int32) :
    ∃ r, fX0_seekLengths (nI d) (nI e) (nI (fb_ct (fF ar) 41)) fb (nI sp) (nI (80 - a0)) f1 f2 f3 f4 g = some r ∧ ((r = (0, f1, f2, f3, f4) ∧ ∀ m k, OKg (bi x) a0 d e m k → m * k ≠ ar) ∨ (∃ m k, r = (1, nI d, nI e, nI m, nI k) ∧ OKg (bi x) a0 d e m k ∧ m * k = ar ∧ ∀ m' k', OKg (bi x) a0 d e m' k' → m' * k' = ar → m ≤ m')) := by
  obtain ⟨c10, _⟩ := fF_fin1 ar (by omega)
  unfold fX0_seekLengths
  refine run_inv0 (step := sX0_seekLengths_3 (nI d) (nI e) (nI (fb_ct (fF ar) 41)) fb (nI sp) (nI (80 - a0)) f1 f2 f3 f4 g) (fb_ct (fF ar) 41) (fun f q => q = nI f ∧ ∀ m k, OKg (bi x) a0 d e m k → m * k = ar → f ≤ fb_ct (fF ar) m) (fun r => (r = (0, f1, f2, f3, f4) ∧ ∀ m k, OKg (bi x) a0 d e m k → m * k ≠ ar) ∨ (∃ m k, r = (1, nI d, nI e, nI m, nI k) ∧ OKg (bi x) a0 d e m k ∧ m * k = ar ∧ ∀ m' k', OKg (bi x) a0 d e m' k' → m' * k' = ar → m ≤ m')) ?_ ?_ ⟨rfl, fun _ _ _ _ => Nat.zero_le _⟩
  · rintro f q hf ⟨rfl, hI⟩
    obtain ⟨m, m1, m2, m3⟩ := fb_ct_kth hf
    subst m3
    obtain ⟨n1, n2, n3⟩ := fF_fin2 ar (by omega) m m1 m2
    have mm := fF_iff.mp m2
    have nn := fF_iff.mp n1
    have hmn : m * (ar / m) = ar := by
      have := Nat.div_add_mod ar m
      omega
    have hct := ct_lt n2 n1
    have nxt : ¬ OKg (bi x) a0 d e m (ar / m) → ∀ m' k', OKg (bi x) a0 d e m' k' → m' * k' = ar → fb_ct (fF ar) m + 1 ≤ fb_ct (fF ar) m' := by
      intro hno m' k' ho har
      have h1 := hI m' k' ho har
      obtain ⟨q1, q2, q3⟩ := ho.fac har h81
      rcases Nat.lt_or_ge (fb_ct (fF ar) m) (fb_ct (fF ar) m') with z | z
      · exact z
      · have := fb_ct_kth_one q1 m2 (by omega)
        subst this
        rw [← q3] at ho
        exact absurd ho hno
    show (∃ q2, bX0_seekLengths_3 (nI d) (nI e) (nI (fb_ct (fF ar) 41)) fb (nI sp) (nI (80 - a0)) f1 f2 f3 f4 g (nI (fb_ct (fF ar) m)) = _ ∧ _) ∨ (∃ t, bX0_seekLengths_3 (nI d) (nI e) (nI (fb_ct (fF ar) 41)) fb (nI sp) (nI (80 - a0)) f1 f2 f3 f4 g (nI (fb_ct (fF ar) m)) = _ ∧ _)
    unfold bX0_seekLengths_3 bX0_seekLengths_93
    simp only [lt_]
    have e1 : nI (fb_ct (fF ar) 41) - 1 - nI (fb_ct (fF ar) m) = nI (fb_ct (fF ar) (ar / m)) := by
      rw [show (1 : Int32) = nI 1 from rfl, pk_sub (by omega), pk_sub (by omega), n3]
    rw [brF (nI_ge hf (by omega)), e1, nI_clamp (by omega), nI_clamp (by omega), gd_eq ⟨nI_pos (by omega), by omega⟩, gd_eq ⟨nI_pos (by omega), by omega⟩, hg m m1 m2, hg _ n2 n1]
    obtain ⟨r1, r1e, r1p⟩ := reaches7 (d := d) (e := e) (m := m) (n := ar / m) (sp := sp) (w := 80 - a0) (by omega) (by omega) (by omega) (by omega) (by omega) (by omega) (by omega) (by omega)
    rw [bd_eq r1e]
    have hreach : cov (bi x) a0 d e m (ar / m) → sp ≤ (m - 1) * d + (ar / m - 1) * e := by
      intro hc
      obtain ⟨i, j, i1, j1, h⟩ := hc (a0 + sp) (by omega) htop
      have t1 : i * d ≤ (m - 1) * d := Nat.mul_le_mul_right _ (by omega)
      have t2 : j * e ≤ (ar / m - 1) * e := Nat.mul_le_mul_right _ (by omega)
      omega
    by_cases c1 : r1 = 0
    · rw [brT c1]
      refine Or.inl ⟨_, rfl, nI_1 _, nxt (fun ho => ?_)⟩
      exact r1p.ne.mpr ⟨hreach ho.2.2.2.2.2.2, ho.2.2.2.2.1⟩ c1
    · rw [brF c1]
      obtain ⟨r2, r2e, r2p⟩ := hasAll7 ha0 hsp hlo (d := d) (e := e) (m := m) (n := ar / m) hd (by omega) (by omega) (by omega) (by omega) (by omega) hfb
      rw [bd_eq r2e]
      by_cases c2 : r2 = 0
      · rw [brT c2]
        refine Or.inl ⟨_, rfl, nI_1 _, nxt (fun ho => ?_)⟩
        exact r2p.ne.mpr ho.2.2.2.2.2.2 c2
      · rw [brF c2]
        obtain ⟨r3, r3e, r3p⟩ := tells7 (d := d) (e := e) (m := m) (n := ar / m) hd hde (by omega) (by omega) (by omega)
        rw [bd_eq r3e]
        by_cases c3 : r3 = 0
        · rw [brT c3]
          refine Or.inl ⟨_, rfl, nI_1 _, nxt (fun ho => ?_)⟩
          exact r3p.ne.mpr ho.2.2.2.2.2.1 c3
        · rw [brF c3, gd_eq (by decide)]
          refine Or.inr ⟨_, rfl, Or.inr ⟨m, ar / m, rfl, ⟨hd, hde, by omega, by omega, (r1p.ne.mp c1).2, r3p.ne.mp c3, r2p.ne.mp c2⟩, hmn, ?_⟩⟩
          intro m' k' ho har
          have h1 := hI m' k' ho har
          obtain ⟨q1, q2, q3⟩ := ho.fac har h81
          rcases Nat.lt_or_ge m' m with z | z
          · have := ct_lt z q1
            omega
          · exact z
  · rintro q ⟨rfl, hI⟩
    show ∃ t, bX0_seekLengths_3 (nI d) (nI e) (nI (fb_ct (fF ar) 41)) fb (nI sp) (nI (80 - a0)) f1 f2 f3 f4 g (nI (fb_ct (fF ar) 41)) = _ ∧ _
    unfold bX0_seekLengths_3
    rw [brT (Int32.le_refl _), gd_eq (by decide)]
    refine ⟨_, rfl, Or.inl ⟨rfl, fun m k ho har => ?_⟩⟩
    obtain ⟨q1, q2, q3⟩ := ho.fac har h81
    have h1 := hI m k ho har
    have := ct_lt q2 q1
    omega
