/-! grids -/
def onc (d e m k : Nat) : Prop := m ≤ e / Nat.gcd e d ∨ k ≤ d / Nat.gcd e d
def cov (A : Nat → Bool) (a0 d e m k : Nat) : Prop := ∀ x, x < 41 → A x = true → ∃ i j, i < m ∧ j < k ∧ x = a0 + i * d + j * e
def OKg (A : Nat → Bool) (a0 d e m k : Nat) : Prop := 1 ≤ d ∧ d < e ∧ 2 ≤ m ∧ 2 ≤ k ∧ (m - 1) * d + (k - 1) * e ≤ 80 - a0 ∧ onc d e m k ∧ cov A a0 d e m k
def posn (d e m : Nat) : Nat := d * 16384 + e * 128 + m
def keyn (d e m k : Nat) : Nat := (m * k) * 2097152 + posn d e m
theorem OKg.bd {A : Nat → Bool} {a0 d e m k : Nat} (h : OKg A a0 d e m k) : 1 ≤ d ∧ d < e ∧ 2 ≤ m ∧ 2 ≤ k ∧ d + e ≤ 80 - a0 ∧ m ≤ 81 ∧ k ≤ 81 := by
  obtain ⟨h1, h2, h3, h4, h5, _, _⟩ := h
  have m1 : d ≤ (m - 1) * d := Nat.le_mul_of_pos_left _ (by omega)
  have m2 : e ≤ (k - 1) * e := Nat.le_mul_of_pos_left _ (by omega)
  have m3 : m - 1 ≤ (m - 1) * d := Nat.le_mul_of_pos_right _ (by omega)
  have m4 : k - 1 ≤ (k - 1) * e := Nat.le_mul_of_pos_right _ (by omega)
  omega
theorem inj_aux {d e m k i j i2 j2 : Nat} (hd : 1 ≤ d) (he : 1 ≤ e) (ho : onc d e m k) (hi : i < m) (hj2 : j2 < k) (hii : i2 ≤ i) (h : i * d + j * e = i2 * d + j2 * e) : i = i2 ∧ j = j2 := by
  have hg : 0 < Nat.gcd e d := Nat.gcd_pos_of_pos_left _ he
  have hjj : j ≤ j2 := by
    rcases Nat.lt_or_ge j2 j with z | z
    · have a1 : i2 * d ≤ i * d := Nat.mul_le_mul_right d hii
      have a2 : j2 * e < j * e := Nat.mul_lt_mul_of_pos_right z (by omega)
      omega
    · exact z
  obtain ⟨u, rfl⟩ : ∃ u, i = i2 + u := ⟨i - i2, by omega⟩
  obtain ⟨v, rfl⟩ : ∃ v, j2 = j + v := ⟨j2 - j, by omega⟩
  rw [Nat.add_mul, Nat.add_mul] at h
  have huv : u * d = v * e := by omega
  have hde : Nat.gcd e d ∣ d := Nat.gcd_dvd_right _ _
  have hee : Nat.gcd e d ∣ e := Nat.gcd_dvd_left _ _
  have hcop : Nat.Coprime (e / Nat.gcd e d) (d / Nat.gcd e d) := Nat.coprime_div_gcd_div_gcd hg
  have huv2 : u * (d / Nat.gcd e d) = v * (e / Nat.gcd e d) := by
    have e1 : Nat.gcd e d * (d / Nat.gcd e d) = d := Nat.mul_div_cancel' hde
    have e2 : Nat.gcd e d * (e / Nat.gcd e d) = e := Nat.mul_div_cancel' hee
    generalize d / Nat.gcd e d = d2 at *
    generalize e / Nat.gcd e d = e2' at *
    generalize Nat.gcd e d = g at *
    rw [← e1, ← e2] at huv
    apply Nat.eq_of_mul_eq_mul_left hg
    rw [← Nat.mul_assoc, ← Nat.mul_assoc, Nat.mul_comm g u, Nat.mul_comm g v, Nat.mul_assoc, Nat.mul_assoc]
    exact huv
  by_cases hu : u = 0
  · subst hu
    rw [Nat.zero_mul] at huv
    have : v = 0 := by
      rcases Nat.eq_zero_or_pos v with z | z
      · exact z
      · have : 0 < v * e := Nat.mul_pos z (by omega)
        omega
    omega
  · exfalso
    have hv : v ≠ 0 := by
      intro z
      subst z
      rw [Nat.zero_mul] at huv
      have : 0 < u * d := Nat.mul_pos (by omega) (by omega)
      omega
    rcases ho with ho | ho
    · have hdv : e / Nat.gcd e d ∣ u := by
        refine Nat.Coprime.dvd_of_dvd_mul_right hcop ?_
        exact ⟨v, by rw [huv2, Nat.mul_comm]⟩
      have := Nat.le_of_dvd (by omega) hdv
      omega
    · have hdv : d / Nat.gcd e d ∣ v := by
        refine Nat.Coprime.dvd_of_dvd_mul_right hcop.symm ?_
        exact ⟨u, by rw [← huv2, Nat.mul_comm]⟩
      have := Nat.le_of_dvd (by omega) hdv
      omega
theorem inj_grid {d e m k i j i2 j2 : Nat} (hd : 1 ≤ d) (he : 1 ≤ e) (ho : onc d e m k) (hi : i < m) (hj : j < k) (hi2 : i2 < m) (hj2 : j2 < k) (h : i * d + j * e = i2 * d + j2 * e) : i = i2 ∧ j = j2 := by
  rcases Nat.le_total i2 i with z | z
  · exact inj_aux hd he ho hi hj2 z h
  · have := inj_aux hd he ho hi2 hj z h.symm
    exact ⟨this.1.symm, this.2.symm⟩
theorem dm_lt {m k c : Nat} (h : c < m * k) : c / k < m ∧ c % k < k := by
  have hk : 0 < k := by
    rcases Nat.eq_zero_or_pos k with z | z
    · subst z; omega
    · exact z
  exact ⟨(Nat.div_lt_iff_lt_mul hk).mpr h, Nat.mod_lt _ hk⟩
theorem OKg.area_le {A : Nat → Bool} {a0 d e m k : Nat} (h : OKg A a0 d e m k) : m * k ≤ 81 := by
  obtain ⟨h1, h2, h3, h4, h5, ho, _⟩ := h
  refine fb_holes 81 (m * k) (fun c => (c / k) * d + (c % k) * e) ?_ ?_
  · intro c hc
    obtain ⟨a1, a2⟩ := dm_lt hc
    have b1 : (c / k) * d ≤ (m - 1) * d := Nat.mul_le_mul_right d (by omega)
    have b2 : (c % k) * e ≤ (k - 1) * e := Nat.mul_le_mul_right e (by omega)
    show (c / k) * d + (c % k) * e < 81
    omega
  · intro i j hij hj he
    obtain ⟨a1, a2⟩ := dm_lt (Nat.lt_trans hij hj)
    obtain ⟨a3, a4⟩ := dm_lt hj
    obtain ⟨q1, q2⟩ := inj_grid h1 (by omega) ho a1 a2 a3 a4 he
    have e1 := Nat.div_add_mod i k
    have e2 := Nat.div_add_mod j k
    rw [q1, q2] at e1
    omega
theorem OKg.area_ge {A : Nat → Bool} {a0 d e m k : Nat} (h : OKg A a0 d e m k) : fb_ct A 41 ≤ m * k := by
  obtain ⟨h1, h2, h3, h4, h5, _, hc⟩ := h
  have ex : ∀ c, c < fb_ct A 41 → ∃ w, w < m * k ∧ ∃ x i j, fb_ct A x = c ∧ j < k ∧ x = a0 + i * d + j * e ∧ w = i * k + j := by
    intro c hc2
    obtain ⟨x, x1, x2, x3⟩ := fb_ct_kth hc2
    obtain ⟨i, j, y1, y2, y3⟩ := hc x x1 x2
    have : (i + 1) * k ≤ m * k := Nat.mul_le_mul_right k (by omega)
    rw [Nat.add_mul, Nat.one_mul] at this
    exact ⟨i * k + j, by omega, x, i, j, x3, y2, y3, rfl⟩
  refine fb_holes (m * k) (fb_ct A 41) (fun c => if h : c < fb_ct A 41 then (ex c h).choose else 0) ?_ ?_
  · intro c hc2
    show (if h : c < fb_ct A 41 then _ else 0) < m * k
    rw [dif_pos hc2]
    exact (ex c hc2).choose_spec.1
  · intro i j hij hj he
    have hi : i < fb_ct A 41 := by omega
    have he : (if h : i < fb_ct A 41 then (ex i h).choose else 0) = (if h : j < fb_ct A 41 then (ex j h).choose else 0) := he
    rw [dif_pos hi, dif_pos hj] at he
    obtain ⟨x, p, q, y1, y3, y4, y5⟩ := (ex i hi).choose_spec.2
    obtain ⟨x2, r, s, z1, z3, z4, z5⟩ := (ex j hj).choose_spec.2
    rw [he, z5] at y5
    have hp : p = r := by
      have a1 : (p * k + q) / k = p := by
        rw [Nat.mul_comm, Nat.mul_add_div (by omega), Nat.div_eq_of_lt y3, Nat.add_zero]
      have a2 : (r * k + s) / k = r := by
        rw [Nat.mul_comm, Nat.mul_add_div (by omega), Nat.div_eq_of_lt z3, Nat.add_zero]
      rw [← y5, a2] at a1
      exact a1.symm
    subst hp
    have hq : q = s := by omega
    subst hq
    rw [← z4] at y4
    rw [y4] at y1
    omega
theorem OKg.area4 {A : Nat → Bool} {a0 d e m k : Nat} (h : OKg A a0 d e m k) : 4 ≤ m * k := by
  obtain ⟨h1, h2, h3, h4, _⟩ := h
  exact Nat.mul_le_mul h3 h4
def BestG (A : Nat → Bool) (a0 d e m k : Nat) : Prop := OKg A a0 d e m k ∧ ∀ d' e' m' k', OKg A a0 d' e' m' k' → keyn d e m k ≤ keyn d' e' m' k'
theorem pos_lt {d e m : Nat} (hd : d ≤ 80) (he : e ≤ 80) (hm : m ≤ 81) : d * 16384 + e * 128 + m < 2097152 := by omega
theorem pos_lt2 {e m : Nat} (he : e ≤ 80) (hm : m ≤ 81) : e * 128 + m < 16384 := by omega
theorem sp_eq {a b r s N : Nat} (hr : r < N) (hs : s < N) (h : a * N + r = b * N + s) : a = b ∧ r = s := by
  have q1 : (a * N + r) / N = a := by
    rw [Nat.mul_comm, Nat.mul_add_div (by omega), Nat.div_eq_of_lt hr, Nat.add_zero]
  have q2 : (b * N + s) / N = b := by
    rw [Nat.mul_comm, Nat.mul_add_div (by omega), Nat.div_eq_of_lt hs, Nat.add_zero]
  have q3 : a = b := by rw [← q1, h, q2]
  subst q3
  exact ⟨rfl, Nat.add_left_cancel h⟩
theorem BestG.one {A : Nat → Bool} {a0 d e m k d' e' m' k' : Nat} (h : BestG A a0 d e m k) (h' : BestG A a0 d' e' m' k') : d = d' ∧ e = e' ∧ m = m' ∧ k = k' := by
  have e1 := h.2 _ _ _ _ h'.1
  have e2 := h'.2 _ _ _ _ h.1
  have b1 := h.1.bd
  have b2 := h'.1.bd
  have hm0 : 0 < m := by omega
  have key : m * k = m' * k' ∧ d = d' ∧ e = e' ∧ m = m' := by
    clear h h'
    have r1 : d * 16384 + e * 128 + m < 2097152 := pos_lt (by omega) (by omega) (by omega)
    have r2 : d' * 16384 + e' * 128 + m' < 2097152 := pos_lt (by omega) (by omega) (by omega)
    have r3 : e * 128 + m < 16384 := pos_lt2 (by omega) (by omega)
    have r4 : e' * 128 + m' < 16384 := pos_lt2 (by omega) (by omega)
    have r5 : m < 128 := by omega
    have r6 : m' < 128 := by omega
    have ek : (m * k) * 2097152 + (d * 16384 + e * 128 + m) = (m' * k') * 2097152 + (d' * 16384 + e' * 128 + m') := Nat.le_antisymm e1 e2
    obtain ⟨u1, u2⟩ := sp_eq r1 r2 ek
    rw [Nat.add_assoc, Nat.add_assoc] at u2
    obtain ⟨u3, u4⟩ := sp_eq r3 r4 u2
    obtain ⟨u5, u6⟩ := sp_eq r5 r6 u4
    exact ⟨u1, u3, u5, u6⟩
  obtain ⟨k1, k2, k3, k4⟩ := key
  subst k4
  exact ⟨k2, k3, rfl, Nat.eq_of_mul_eq_mul_left hm0 k1⟩
