/-! orders of the first numbers, the next order -/
theorem run_meas {L T : Type} {step : L → Option (L ⊕ T)} (I : L → Prop) (mu : L → Nat) (P : T → Prop) (hs : ∀ q, I q → (∃ q2, step q = some (.inl q2) ∧ I q2 ∧ mu q2 < mu q) ∨ (∃ t, step q = some (.inr t) ∧ P t)) {q : L} (h0 : I q) : ∃ t, run step q = some t ∧ P t := by
  have all : ∀ N q, mu q < N → I q → ∃ t, run step q = some t ∧ P t := by
    intro N
    induction N with
    | zero => intro q h; omega
    | succ N ih =>
      intro q h hI
      rcases hs q hI with ⟨q2, h1, h2, h3⟩ | ⟨t, h1, h2⟩
      · rw [run_inl h1]; exact ih q2 (by omega) h2
      · exact ⟨t, run_inr h1, h2⟩
  exact all (mu q + 1) q (by omega) h0
def isP (o : Nat → Nat) (n : Nat) : Prop := (∀ i, i < n → o i < n) ∧ ∀ i j, i < n → j < n → o i = o j → i = j
def agr (o t : Nat → Nat) (k : Nat) : Prop := ∀ i, i < k → o i = t i
def lxl (o t : Nat → Nat) (n : Nat) : Prop := ∃ k, k < n ∧ agr o t k ∧ o k < t k
theorem agr.symm {o t : Nat → Nat} {k : Nat} (h : agr o t k) : agr t o k := fun i hi => (h i hi).symm
theorem agr.trans {o t s : Nat → Nat} {k : Nat} (h : agr o t k) (h2 : agr t s k) : agr o s k := fun i hi => (h i hi).trans (h2 i hi)
theorem agr.mono {o t : Nat → Nat} {k l : Nat} (h : agr o t k) (hl : l ≤ k) : agr o t l := fun i hi => h i (by omega)
theorem lxl_asym {o t : Nat → Nat} {n : Nat} (h : lxl o t n) (h2 : lxl t o n) : False := by
  obtain ⟨k, k1, k2, k3⟩ := h
  obtain ⟨l, l1, l2, l3⟩ := h2
  rcases Nat.lt_trichotomy k l with z | z | z
  · have := l2 k z; omega
  · subst z; omega
  · have := k2 l z; omega
theorem lxl_tri (o t : Nat → Nat) : ∀ n, lxl o t n ∨ agr o t n ∨ lxl t o n := by
  intro n
  induction n with
  | zero => exact Or.inr (Or.inl (fun i hi => absurd hi (by omega)))
  | succ n ih =>
    rcases ih with ⟨k, k1, k2, k3⟩ | h | ⟨k, k1, k2, k3⟩
    · exact Or.inl ⟨k, by omega, k2, k3⟩
    · rcases Nat.lt_trichotomy (o n) (t n) with z | z | z
      · exact Or.inl ⟨n, by omega, h, z⟩
      · refine Or.inr (Or.inl (fun i hi => ?_))
        by_cases e : i = n
        · rw [e]; exact z
        · exact h i (by omega)
      · exact Or.inr (Or.inr ⟨n, by omega, h.symm, z⟩)
    · exact Or.inr (Or.inr ⟨k, by omega, k2, k3⟩)
theorem lxl_agr {o t : Nat → Nat} {n : Nat} (h : agr o t n) : ¬ lxl o t n := by
  rintro ⟨k, k1, k2, k3⟩
  have := h k k1
  omega
theorem isP.behind {o t : Nat → Nat} {n : Nat} (ho : isP o n) (ht : isP t n) {j : Nat} (hj : j < n) (ha : agr t o j) : ∃ l, j ≤ l ∧ l < n ∧ o l = t j := by
  obtain ⟨l, l1, l2⟩ := fb_onto ho.1 (fun i j hij hj e => by have := ho.2 i j (by omega) hj e; omega) (ht.1 j hj)
  rcases Nat.lt_or_ge l j with z | z
  · have h1 := ha l z
    have := ht.2 l j (by omega) hj (by omega)
    omega
  · exact ⟨l, z, l1, l2⟩
def desc (o : Nat → Nat) (a n : Nat) : Prop := ∀ l l', a ≤ l → l < l' → l' < n → o l' < o l
theorem desc_none {o t : Nat → Nat} {n : Nat} (ho : isP o n) (hd : desc o 0 n) (ht : isP t n) : ¬ lxl o t n := by
  rintro ⟨k, k1, k2, k3⟩
  obtain ⟨l, l1, l2, l3⟩ := ho.behind ht k1 k2.symm
  by_cases e : l = k
  · subst e; omega
  · have := hd k l (by omega) (by omega) l2
    omega
def trp (i k l : Nat) : Nat := if l = i then k else if l = k then i else l
theorem trp_i (i k : Nat) : trp i k i = k := if_pos rfl
theorem trp_k {i k : Nat} (h : i < k) : trp i k k = i := by unfold trp; rw [if_neg (by omega), if_pos rfl]
theorem trp_o {i k l : Nat} (h1 : l ≠ i) (h2 : l ≠ k) : trp i k l = l := by unfold trp; rw [if_neg h1, if_neg h2]
theorem trp_lt {i k l n : Nat} (hi : i < n) (hk : k < n) (hl : l < n) : trp i k l < n := by
  unfold trp
  by_cases e1 : l = i
  · rw [if_pos e1]; exact hk
  · rw [if_neg e1]
    by_cases e2 : l = k
    · rw [if_pos e2]; exact hi
    · rw [if_neg e2]; exact hl
theorem trp_trp {i k : Nat} (h : i < k) (l : Nat) : trp i k (trp i k l) = l := by
  by_cases e1 : l = i
  · subst e1; rw [trp_i, trp_k h]
  · by_cases e2 : l = k
    · subst e2; rw [trp_k h, trp_i]
    · rw [trp_o e1 e2, trp_o e1 e2]
def rvv (n i l : Nat) : Nat := if l ≤ i then l else n + i - l
theorem rvv_lt {n i l : Nat} (hl : l < n) : rvv n i l < n := by
  unfold rvv
  by_cases e : l ≤ i
  · rw [if_pos e]; exact hl
  · rw [if_neg e]; omega
theorem rvv_rvv {n i l : Nat} (hl : l < n) : rvv n i (rvv n i l) = l := by
  unfold rvv
  by_cases e : l ≤ i
  · rw [if_pos e, if_pos e]
  · rw [if_neg e, if_neg (by omega)]; omega
def nxo (o : Nat → Nat) (n i k l : Nat) : Nat := o (trp i k (rvv n i l))
theorem nxo_isP {o : Nat → Nat} {n i k : Nat} (ho : isP o n) (hik : i < k) (hk : k < n) : isP (nxo o n i k) n := by
  refine ⟨fun l hl => ho.1 _ (trp_lt (by omega) hk (rvv_lt hl)), fun l l' hl hl' e => ?_⟩
  have e1 := ho.2 _ _ (trp_lt (by omega) hk (rvv_lt hl)) (trp_lt (by omega) hk (rvv_lt hl')) e
  have e2 : rvv n i l = rvv n i l' := by rw [← trp_trp hik (rvv n i l), e1, trp_trp hik]
  rw [← rvv_rvv hl (i := i), e2, rvv_rvv hl']
theorem nxo_lo {o : Nat → Nat} {n i k l : Nat} (hik : i < k) (hl : l < i) : nxo o n i k l = o l := by
  unfold nxo rvv
  rw [if_pos (by omega), trp_o (by omega) (by omega)]
theorem nxo_at {o : Nat → Nat} {n i k : Nat} : nxo o n i k i = o k := by
  unfold nxo rvv
  rw [if_pos (by omega), trp_i]
theorem nxo_gt {o : Nat → Nat} {n i k : Nat} (hik : i < k) (hk : k < n) (hgt : o i < o k) : lxl o (nxo o n i k) n := ⟨i, by omega, fun l hl => (nxo_lo hik hl).symm, by rw [nxo_at]; exact hgt⟩
theorem nxo_asc {o : Nat → Nat} {n i k : Nat} (hd : desc o (i + 1) n) (hik : i < k) (hk : k < n) (hgt : o i < o k) (hmax : ∀ l, k < l → l < n → o l < o i) {j l : Nat} (hj : i < j) (hjl : j < l) (hl : l < n) : nxo o n i k j < nxo o n i k l := by
  unfold nxo rvv
  rw [if_neg (by omega), if_neg (by omega)]
  by_cases e1 : n + i - j = k
  · rw [e1, trp_k hik, trp_o (by omega) (by omega)]
    have := hd (n + i - l) k (by omega) (by omega) hk
    omega
  · rw [trp_o (l := n + i - j) (by omega) e1]
    by_cases e2 : n + i - l = k
    · rw [e2, trp_k hik]
      exact hmax _ (by omega) (by omega)
    · rw [trp_o (by omega) e2]
      exact hd _ _ (by omega) (by omega) (by omega)
theorem nxo_next {o t : Nat → Nat} {n i k : Nat} (ho : isP o n) (hd : desc o (i + 1) n) (hik : i < k) (hk : k < n) (hgt : o i < o k) (hmax : ∀ l, k < l → l < n → o l < o i) (ht : isP t n) (hot : lxl o t n) : ¬ lxl t (nxo o n i k) n := by
  rintro ⟨j, j1, j2, j3⟩
  obtain ⟨k0, a1, a2, a3⟩ := hot
  have hk0 : k0 ≤ i := by
    rcases Nat.lt_or_ge i k0 with z | z
    · obtain ⟨l, l1, l2, l3⟩ := ho.behind ht a1 a2.symm
      by_cases e : l = k0
      · subst e; omega
      · have := hd k0 l (by omega) (by omega) l2
        omega
    · exact z
  rcases Nat.lt_trichotomy j i with z | z | z
  · rw [nxo_lo hik z] at j3
    rcases Nat.lt_trichotomy k0 j with y | y | y
    · have h1 := j2 k0 y
      rw [nxo_lo hik (by omega)] at h1
      omega
    · subst y; omega
    · have := a2 j y; omega
  · subst z
    rw [nxo_at] at j3
    rcases Nat.lt_or_ge k0 j with y | y
    · have h1 := j2 k0 y
      rw [nxo_lo hik y] at h1
      omega
    · have e : k0 = j := by omega
      subst e
      obtain ⟨l, l1, l2, l3⟩ := ho.behind ht a1 a2.symm
      have hl0 : l ≠ k0 := by intro y; subst y; omega
      rcases Nat.lt_trichotomy l k with y | y | y
      · have := hd l k (by omega) y hk; omega
      · subst y; omega
      · have := hmax l y l2; omega
  · obtain ⟨l, l1, l2, l3⟩ := (nxo_isP ho hik hk).behind ht j1 j2
    by_cases e : l = j
    · subst e; omega
    · have := nxo_asc hd hik hk hgt hmax z (show j < l by omega) l2
      omega
/-- an order as a number -/
def cd (o : Nat → Nat) : Nat → Nat
  | 0 => 0
  | n + 1 => 8 * cd o n + o n
theorem cd_cong {o t : Nat → Nat} : ∀ {n : Nat}, agr o t n → cd o n = cd t n := by
  intro n
  induction n with
  | zero => intro _; rfl
  | succ n ih =>
    intro h
    show 8 * cd o n + o n = 8 * cd t n + t n
    rw [ih (h.mono (by omega)), h n (by omega)]
theorem cd_bd {o : Nat → Nat} : ∀ {n : Nat}, (∀ i, i < n → o i < 8) → cd o n < 8 ^ n := by
  intro n
  induction n with
  | zero => intro _; show 0 < 1; omega
  | succ n ih =>
    intro h
    have h1 := ih (fun i hi => h i (by omega))
    have h2 := h n (by omega)
    show 8 * cd o n + o n < 8 ^ n * 8
    omega
theorem cd_lt {o t : Nat → Nat} : ∀ {n : Nat}, lxl o t n → (∀ i, i < n → o i < 8) → cd o n < cd t n := by
  intro n
  induction n with
  | zero => rintro ⟨k, k1, _⟩; omega
  | succ n ih =>
    rintro ⟨k, k1, k2, k3⟩ h
    have h2 := h n (by omega)
    show 8 * cd o n + o n < 8 * cd t n + t n
    by_cases e : k = n
    · subst e
      rw [cd_cong k2]; omega
    · have := ih ⟨k, by omega, k2, k3⟩ (fun i hi => h i (by omega))
      omega
def vld (as bs o : Nat → Nat) (n : Nat) : Prop := ∀ i j k l, i < n → j < n → k < n → l < n → (as i + as j = as k + as l ↔ bs (o i) + bs (o j) = bs (o k) + bs (o l))
theorem vld.cong {as bs o t : Nat → Nat} {n : Nat} (h : vld as bs o n) (ha : agr o t n) : vld as bs t n := by
  intro i j k l hi hj hk hl
  rw [← ha i hi, ← ha j hj, ← ha k hk, ← ha l hl]
  exact h i j k l hi hj hk hl
/-- the pairing: the first order that pairs -/
def lst (as bs : Nat → Nat) (n : Nat) (o : Nat → Nat) : Prop := isP o n ∧ vld as bs o n ∧ ∀ t, isP t n → vld as bs t n → ¬ lxl t o n
theorem lst.one {as bs o t : Nat → Nat} {n : Nat} (h : lst as bs n o) (h2 : lst as bs n t) : agr o t n := by
  rcases lxl_tri o t n with z | z | z
  · exact absurd z (h2.2.2 o h.1 h.2.1)
  · exact z
  · exact absurd z (h.2.2 t h2.1 h2.2.1)
