/-! the reference's search of a pairing -/
def smp (f : Nat → Nat) (n p : Nat) : Nat := f (p / n) + f (p % n)
def Ep (as bs o : Nat → Nat) (n p q : Nat) : Prop := smp as n p = smp as n q ↔ smp (fun i => bs (o i)) n p = smp (fun i => bs (o i)) n q
theorem vld_iff {as bs o : Nat → Nat} {n : Nat} (h1 : 1 ≤ n) : (∀ p, p < n * n → ∀ q, q < p → Ep as bs o n p q) ↔ vld as bs o n := by
  constructor
  · intro h i j k l hi hj hk hl
    have dm : ∀ a b, b < n → (a * n + b) / n = a ∧ (a * n + b) % n = b := by
      intro a b hb
      refine ⟨?_, ?_⟩
      · rw [Nat.mul_comm, Nat.mul_add_div (by omega), Nat.div_eq_of_lt hb, Nat.add_zero]
      · rw [Nat.mul_comm, Nat.mul_add_mod, Nat.mod_eq_of_lt hb]
    have lt : ∀ a b, a < n → b < n → a * n + b < n * n := by
      intro a b ha hb
      have : (a + 1) * n ≤ n * n := Nat.mul_le_mul_right n (by omega)
      rw [Nat.add_mul, Nat.one_mul] at this
      omega
    have hE : ∀ p q, p < n * n → q < n * n → Ep as bs o n p q := by
      intro p q hp hq
      rcases Nat.lt_trichotomy q p with z | z | z
      · exact h p hp q z
      · subst z; exact ⟨fun _ => rfl, fun _ => rfl⟩
      · have := h q hq p z
        exact ⟨fun e => (this.mp e.symm).symm, fun e => (this.mpr e.symm).symm⟩
    have := hE (i * n + j) (k * n + l) (lt i j hi hj) (lt k l hk hl)
    unfold Ep smp at this
    rw [(dm i j hj).1, (dm i j hj).2, (dm k l hl).1, (dm k l hl).2] at this
    exact this
  · intro h p hp q hq
    have hp2 := dm_lt hp
    have hq2 := dm_lt (Nat.lt_trans hq hp)
    exact h _ _ _ _ hp2.1 hp2.2 hq2.1 hq2.2
theorem pair18 {as bs o : Nat → Nat} {n : Nat} (h1 : 1 ≤ n) (h7 : n ≤ 7) {fi se od : Nat → Int32} (hf : ∀ i, i < n → fi i = nI (as i)) (ha : ∀ i, i < n → as i < 41) (hs : ∀ i, i < n → se i = nI (bs i)) (hb : ∀ i, i < n → bs i < 41) (ho : ∀ i, i < n → od i = nI (o i)) (hol : ∀ i, i < n → o i < n) {p : Nat} (hp : p < n * n) {C : Prop} {x : Int32} (hx : is01 x C) :
    ∃ y, run (sX8_isPairing_18 (nI n) (nI p) fi se od) (x, (0 : Int32)) = some (.inl (y, nI (p + 1))) ∧ is01 y (C ∧ ∀ q, q < p → Ep as bs o n p q) := by
  have h49 : n * n ≤ 7 * 7 := Nat.mul_le_mul h7 h7
  have hp2 := dm_lt hp
  have key := run_inv0 (step := sX8_isPairing_18 (nI n) (nI p) fi se od) p (fun q s => s.2 = nI q ∧ is01 s.1 (C ∧ ∀ q', q' < q → Ep as bs o n p q')) (fun t => ∃ y, t = .inl (y, nI (p + 1)) ∧ is01 y (C ∧ ∀ q, q < p → Ep as bs o n p q)) (by
    rintro q ⟨x, v⟩ hq ⟨rfl, hx⟩
    have hx : is01 x (C ∧ ∀ q', q' < q → Ep as bs o n p q') := hx
    show (∃ q2, bX8_isPairing_18 (nI n) (nI p) fi se od x (nI q) = _ ∧ _) ∨ (∃ t, bX8_isPairing_18 (nI n) (nI p) fi se od x (nI q) = _ ∧ _)
    have hq2 := dm_lt (Nat.lt_trans hq hp)
    have g0 : ¬ nI n = 0 := nI_ne0 (by omega) (by omega)
    have G0 : ∀ {β : Type} (k : Option β), gd (¬ nI n = 0) k = k := fun k => gd_eq g0
    have G41 : ∀ {β : Type} {a : Nat} (ha : a < 41) (k : Option β), gd (¬ nI a < 0 ∧ (nI a).toNatClampNeg < 41) k = k := fun ha k => gd_eq ⟨nI_pos (by omega), by rw [nI_clamp (by omega)]; exact ha⟩
    have G7 : ∀ {β : Type} {a : Nat} (ha : a < 7) (k : Option β), gd (¬ nI a < 0 ∧ (nI a).toNatClampNeg < 7) k = k := fun ha k => gd_eq ⟨nI_pos (by omega), by rw [nI_clamp (by omega)]; exact ha⟩
    have cl : ∀ {a : Nat}, a < 41 → (nI a).toNatClampNeg = a := fun h => nI_clamp (by omega)
    unfold bX8_isPairing_18
    rw [brF (nI_ge hq (by omega))]
    by_cases x0 : x = 0
    · rw [brT x0]
      unfold bX8_isPairing_159
      simp only [lt_]
      rw [nI_1]
      refine Or.inr ⟨_, rfl, x, rfl, ?_⟩
      rw [x0]
      refine is01.no (fun z => hx.ne.mpr ⟨z.1, fun q' h' => z.2 q' (by omega)⟩ x0)
    · rw [brF x0]
      left
      unfold bX8_isPairing_72 bX8_isPairing_138 bX8_isPairing_152
      simp only [lt_]
      rw [pk_rem (a := p) (d := n) (by omega) (by omega) (by omega), pk_rem (a := q) (d := n) (by omega) (by omega) (by omega), pk_div (a := p) (d := n) (by omega) (by omega) (by omega), pk_div (a := q) (d := n) (by omega) (by omega) (by omega)]
      have o1 := hol _ hp2.1
      have o2 := hol _ hp2.2
      have o3 := hol _ hq2.1
      have o4 := hol _ hq2.2
      simp only [G0, cl (show p / n < 41 by omega), cl (show p % n < 41 by omega), cl (show q / n < 41 by omega), cl (show q % n < 41 by omega)]
      rw [ho _ hp2.1, ho _ hp2.2, ho _ hq2.1, ho _ hq2.2]
      simp only [cl (show o (p / n) < 41 by omega), cl (show o (p % n) < 41 by omega), cl (show o (q / n) < 41 by omega), cl (show o (q % n) < 41 by omega)]
      have A7 : ∀ {β : Type} {a : Nat} (ha : a < 7) (k : Option β), gd (¬ nI a < 0 ∧ a < 7) k = k := fun ha k => gd_eq ⟨nI_pos (by omega), ha⟩
      have A41 : ∀ {β : Type} {a : Nat} (ha : a < 41) (k : Option β), gd (¬ nI a < 0 ∧ a < 41) k = k := fun ha k => gd_eq ⟨nI_pos (by omega), ha⟩
      simp only [A7 (show p / n < 7 by omega), A7 (show p % n < 7 by omega), A7 (show q / n < 7 by omega), A7 (show q % n < 7 by omega), A41 (show p / n < 41 by omega), A41 (show p % n < 41 by omega), A41 (show q / n < 41 by omega), A41 (show q % n < 41 by omega), A41 (show o (p / n) < 41 by omega), A41 (show o (p % n) < 41 by omega), A41 (show o (q / n) < 41 by omega), A41 (show o (q % n) < 41 by omega)]
      rw [hf _ hp2.1, hf _ hp2.2, hf _ hq2.1, hf _ hq2.2, hs _ o1, hs _ o2, hs _ o3, hs _ o4]
      simp only [nI_add, nI_1]
      have a1 := ha _ hp2.1
      have a2 := ha _ hp2.2
      have a3 := ha _ hq2.1
      have a4 := ha _ hq2.2
      have b1 := hb _ o1
      have b2 := hb _ o2
      have b3 := hb _ o3
      have b4 := hb _ o4
      have hx1 := hx.ne.mp x0
      have yes : Ep as bs o n p q → is01 (1 : Int32) (C ∧ ∀ q', q' < q + 1 → Ep as bs o n p q') := by
        intro z
        refine is01.yes ⟨hx1.1, fun q' h' => ?_⟩
        by_cases e : q' = q
        · rw [e]; exact z
        · exact hx1.2 q' (by omega)
      have no : ¬ Ep as bs o n p q → is01 (0 : Int32) (C ∧ ∀ q', q' < q + 1 → Ep as bs o n p q') := fun z => is01.no (fun y => z (y.2 q (by omega)))
      by_cases c1 : as (p / n) + as (p % n) = as (q / n) + as (q % n)
      · rw [brT (show nI (as (p / n) + as (p % n)) = nI (as (q / n) + as (q % n)) by rw [c1])]
        by_cases c2 : bs (o (p / n)) + bs (o (p % n)) = bs (o (q / n)) + bs (o (q % n))
        · rw [brT (show nI (bs (o (p / n)) + bs (o (p % n))) = nI (bs (o (q / n)) + bs (o (q % n))) by rw [c2]), brT (by decide)]
          exact ⟨_, rfl, rfl, yes ⟨fun _ => c2, fun _ => c1⟩⟩
        · rw [brF (fun z => c2 ((nI_eq (by omega) (by omega)).mp z)), brF (by decide)]
          exact ⟨_, rfl, rfl, no (fun z => c2 (z.mp c1))⟩
      · rw [brF (fun z => c1 ((nI_eq (by omega) (by omega)).mp z))]
        by_cases c2 : bs (o (p / n)) + bs (o (p % n)) = bs (o (q / n)) + bs (o (q % n))
        · rw [brT (show nI (bs (o (p / n)) + bs (o (p % n))) = nI (bs (o (q / n)) + bs (o (q % n))) by rw [c2]), brF (by decide)]
          exact ⟨_, rfl, rfl, no (fun z => c1 (z.mpr c2))⟩
        · rw [brF (fun z => c2 ((nI_eq (by omega) (by omega)).mp z)), brT (by decide)]
          exact ⟨_, rfl, rfl, yes ⟨fun z => absurd z c1, fun z => absurd z c2⟩⟩) (by
    rintro ⟨x, v⟩ ⟨rfl, hx⟩
    have hx : is01 x (C ∧ ∀ q', q' < p → Ep as bs o n p q') := hx
    show ∃ t, bX8_isPairing_18 (nI n) (nI p) fi se od x (nI p) = _ ∧ _
    unfold bX8_isPairing_18
    rw [brT (Int32.le_refl _)]
    unfold bX8_isPairing_159
    simp only [lt_]
    rw [nI_1]
    exact ⟨_, rfl, x, rfl, hx⟩) (q := (x, (0 : Int32))) ⟨rfl, hx.congr ⟨fun z => ⟨z, fun q' h' => absurd h' (by omega)⟩, fun z => z.1⟩⟩
  obtain ⟨t, r1, y, rfl, r2⟩ := key
  exact ⟨y, r1, r2⟩
theorem isPairing8 {as bs o : Nat → Nat} {n : Nat} (h1 : 1 ≤ n) (h7 : n ≤ 7) {fi se od : Nat → Int32} (hf : ∀ i, i < n → fi i = nI (as i)) (ha : ∀ i, i < n → as i < 41) (hs : ∀ i, i < n → se i = nI (bs i)) (hb : ∀ i, i < n → bs i < 41) (ho : ∀ i, i < n → od i = nI (o i)) (hol : ∀ i, i < n → o i < n) :
    ∃ r, fX8_isPairing (nI n) fi se od = some r ∧ is01 r (vld as bs o n) := by
  have h49 : n * n ≤ 7 * 7 := Nat.mul_le_mul h7 h7
  unfold fX8_isPairing
  refine run_inv0 (step := sX8_isPairing_4 (nI n) fi se od) (n * n) (fun p s => s.2 = nI p ∧ is01 s.1 (∀ p', p' < p → ∀ q, q < p' → Ep as bs o n p' q)) (fun r => is01 r (vld as bs o n)) ?_ ?_ ⟨rfl, is01.yes (fun p' h' => absurd h' (by omega))⟩
  · rintro p ⟨x, v⟩ hp ⟨rfl, hx⟩
    have hx : is01 x (∀ p', p' < p → ∀ q, q < p' → Ep as bs o n p' q) := hx
    show (∃ q2, bX8_isPairing_4 (nI n) fi se od x (nI p) = _ ∧ _) ∨ (∃ t, bX8_isPairing_4 (nI n) fi se od x (nI p) = _ ∧ _)
    unfold bX8_isPairing_4
    rw [pk_mul, brF (nI_ge hp (by omega))]
    by_cases x0 : x = 0
    · rw [brT x0, gd_eq hx.z]
      refine Or.inr ⟨_, rfl, ?_⟩
      rw [x0]
      refine is01.no (fun z => hx.ne.mpr (fun p' h' => (vld_iff h1).mpr z p' (by omega)) x0)
    · rw [brF x0]
      obtain ⟨y, r1, r2⟩ := pair18 h1 h7 hf ha hs hb ho hol hp hx
      refine Or.inl ⟨_, r1, rfl, r2.congr ⟨?_, ?_⟩⟩
      · rintro ⟨z1, z2⟩ p' h' q hq
        by_cases e : p' = p
        · subst e; exact z2 q hq
        · exact z1 p' (by omega) q hq
      · intro z
        exact ⟨fun p' h' => z p' (by omega), z p (by omega)⟩
  · rintro ⟨x, v⟩ ⟨rfl, hx⟩
    have hx : is01 x (∀ p', p' < n * n → ∀ q, q < p' → Ep as bs o n p' q) := hx
    show ∃ t, bX8_isPairing_4 (nI n) fi se od x (nI (n * n)) = _ ∧ _
    unfold bX8_isPairing_4
    rw [pk_mul, brT (Int32.le_refl _), gd_eq hx.z]
    exact ⟨_, rfl, hx.congr (vld_iff h1)⟩
def vl (g : Nat → Int32) (i : Nat) : Nat := (g i).toNatClampNeg
theorem pair22 {as bs : Nat → Nat} {n : Nat} (h1 : 1 ≤ n) (h7 : n ≤ 7) {fi se : Nat → Int32} (hf : ∀ i, i < n → fi i = nI (as i)) (ha : ∀ i, i < n → as i < 41) (hs : ∀ i, i < n → se i = nI (bs i)) (hb : ∀ i, i < n → bs i < 41) {od : Nat → Int32} (h0 : ∀ i, i < n → od i = nI i) :
    ∃ t, run (sX8_findPairing_22 (nI n) fi se) ((1 : Int32), od) = some t ∧ ((t.1 = 0 ∧ ∀ o, isP o n → ¬ vld as bs o n) ∨ (t.1 = 1 ∧ ∃ o, (∀ i, i < n → t.2 i = nI (o i)) ∧ lst as bs n o)) := by
  refine run_meas (step := sX8_findPairing_22 (nI n) fi se) (fun q => (q.1 = 0 ∧ ∀ o, isP o n → ¬ vld as bs o n) ∨ (q.1 = 1 ∧ ∃ o, (∀ i, i < n → q.2 i = nI (o i)) ∧ isP o n ∧ ∀ t, isP t n → vld as bs t n → ¬ lxl t o n)) (fun q => if q.1 = 0 then 0 else 1 + (8 ^ n - cd (vl q.2) n)) (fun t => (t.1 = 0 ∧ ∀ o, isP o n → ¬ vld as bs o n) ∨ (t.1 = 1 ∧ ∃ o, (∀ i, i < n → t.2 i = nI (o i)) ∧ lst as bs n o)) ?_ (q := ((1 : Int32), od)) (Or.inr ⟨rfl, fun i => i, h0, ⟨fun i hi => hi, fun i j _ _ e => e⟩, ?_⟩)
  · rintro ⟨x, g⟩ hI
    show (∃ q2, bX8_findPairing_22 (nI n) fi se x g = _ ∧ _) ∨ (∃ t, bX8_findPairing_22 (nI n) fi se x g = _ ∧ _)
    unfold bX8_findPairing_22
    rcases hI with ⟨hx, hno⟩ | ⟨hx, o, hg, ho, hmin⟩
    · have hx : x = 0 := hx
      subst hx
      rw [brT rfl, gd_eq (by decide)]
      exact Or.inr ⟨_, rfl, Or.inl ⟨rfl, hno⟩⟩
    · have hx : x = 1 := hx
      subst hx
      have hg : ∀ i, i < n → g i = nI (o i) := hg
      obtain ⟨r, r1, r2⟩ := isPairing8 h1 h7 hf ha hs hb hg ho.1
      rw [brF (show ¬ (1 : Int32) = 0 by decide), bd_eq r1]
      by_cases c : r = 0
      · rw [brT c]
        obtain ⟨⟨r', g2⟩, n1, n2⟩ := nextOrder8 h1 h7 ho hg
        rw [bd_eq n1]
        have hnv : ¬ vld as bs o n := fun z => r2.ne.mpr z c
        have above : ∀ t, isP t n → vld as bs t n → lxl o t n := by
          intro t ht hv
          rcases lxl_tri o t n with z | z | z
          · exact z
          · exact absurd (hv.cong z.symm) hnv
          · exact absurd z (hmin t ht hv)
        refine Or.inl ⟨_, rfl, ?_, ?_⟩
        · rcases n2 with ⟨e1, hd⟩ | ⟨e1, i, k, hik, hk, hd, hgt, hmax, hg2⟩
          · exact Or.inl ⟨e1, fun t ht hv => desc_none ho hd ht (above t ht hv)⟩
          · exact Or.inr ⟨e1, nxo o n i k, hg2, nxo_isP ho hik hk, fun t ht hv => nxo_next ho hd hik hk hgt hmax ht (above t ht hv)⟩
        · show (if r' = 0 then 0 else 1 + (8 ^ n - cd (vl g2) n)) < (if (1 : Int32) = 0 then 0 else 1 + (8 ^ n - cd (vl g) n))
          rw [if_neg (show ¬ (1 : Int32) = 0 by decide)]
          rcases n2 with ⟨e1, hd⟩ | ⟨e1, i, k, hik, hk, hd, hgt, hmax, hg2⟩
          · have e1 : r' = 0 := e1
            rw [if_pos e1]; omega
          · have e1 : r' = 1 := e1
            rw [if_neg (by rw [e1]; decide)]
            have hP := nxo_isP ho hik hk
            have hg2 : ∀ l, l < n → g2 l = nI (nxo o n i k l) := hg2
            have q1 : cd (vl g) n = cd o n := cd_cong (fun i hi => by
              have := ho.1 i hi
              unfold vl; rw [hg i hi, nI_clamp (by omega)])
            have q2 : cd (vl g2) n = cd (nxo o n i k) n := cd_cong (fun i hi => by
              have := hP.1 i hi
              unfold vl; rw [hg2 i hi, nI_clamp (by omega)])
            have q3 := cd_lt (nxo_gt hik hk hgt) (fun i hi => by have := ho.1 i hi; omega)
            have q4 := cd_bd (o := nxo o n i k) (n := n) (fun i hi => by have := hP.1 i hi; omega)
            rw [q1, q2]
            omega
      · rw [brF c, gd_eq (by decide)]
        exact Or.inr ⟨_, rfl, Or.inr ⟨rfl, o, hg, ho, r2.ne.mp c, hmin⟩⟩
  · rintro t ht hv ⟨k, k1, k2, k3⟩
    have k3 : t k < k := k3
    have := k2 (t k) k3
    have := ht.2 (t k) k (by omega) k1 this
    omega
theorem findPairing8 {as bs : Nat → Nat} {n : Nat} (h1 : 1 ≤ n) (h7 : n ≤ 7) {fi se : Nat → Int32} (hf : ∀ i, i < n → fi i = nI (as i)) (ha : ∀ i, i < n → as i < 41) (hs : ∀ i, i < n → se i = nI (bs i)) (hb : ∀ i, i < n → bs i < 41) (od : Nat → Int32) :
    ∃ r od2, fX8_findPairing (nI n) fi se od = some (r, od2) ∧ ((r = 0 ∧ ∀ o, isP o n → ¬ vld as bs o n) ∨ (r = 1 ∧ ∃ o, (∀ i, i < n → od2 i = nI (o i)) ∧ lst as bs n o)) := by
  unfold fX8_findPairing
  have key := run_inv0 (step := sX8_findPairing_2 (nI n) fi se) n (fun i q => q.1 = nI i ∧ ∀ j, j < i → q.2 j = nI j) (fun t => (t.1 = 0 ∧ ∀ o, isP o n → ¬ vld as bs o n) ∨ (t.1 = 1 ∧ ∃ o, (∀ i, i < n → t.2 i = nI (o i)) ∧ lst as bs n o)) (by
    rintro i ⟨x, g⟩ hi ⟨rfl, hg⟩
    have hg : ∀ j, j < i → g j = nI j := hg
    left
    show (∃ q2, bX8_findPairing_2 (nI n) fi se (nI i) g = _ ∧ _)
    unfold bX8_findPairing_2
    simp only [lt_]
    rw [brF (nI_ge hi (by omega)), nI_clamp (by omega), gd_eq ⟨nI_pos (by omega), by omega⟩, nI_1]
    refine ⟨_, rfl, rfl, fun j hj => ?_⟩
    show upd g i (nI i) j = nI j
    by_cases e : j = i
    · subst e; exact pk_us
    · rw [pk_un e]; exact hg j (by omega)) (by
    rintro ⟨x, g⟩ ⟨rfl, hg⟩
    have hg : ∀ j, j < n → g j = nI j := hg
    show (∃ t, bX8_findPairing_2 (nI n) fi se (nI n) g = _ ∧ _)
    unfold bX8_findPairing_2
    rw [brT (Int32.le_refl _)]
    obtain ⟨t, r1, r2⟩ := pair22 h1 h7 hf ha hs hb hg
    rw [r1]
    exact ⟨t, rfl, r2⟩) (q := ((0 : Int32), od)) ⟨rfl, fun j hj => absurd hj (by omega)⟩
  obtain ⟨⟨r, od2⟩, r1, r2⟩ := key
  exact ⟨r, od2, r1, r2⟩
