/-! the reference's next order -/
theorem no100 {o : Nat → Nat} {n i : Nat} (hn : n ≤ 7) (hi : i < n) {g : Nat → Int32} (hg : ∀ l, l < n → g l = nI (o l)) :
    ∃ g2, run sX8_nextOrder_100 (nI i + 1, nI n - 1, g) = some (1, g2) ∧ ∀ l, l < n → g2 l = nI (o (rvv n i l)) := by
  have key := run_inv0 (step := sX8_nextOrder_100) ((n - i - 1) / 2) (fun s q => q.1 = nI (i + 1 + s) ∧ q.2.1 = nI (n - 1 - s) ∧ ∀ l, l < n → q.2.2 l = nI (o (if (i < l ∧ l < i + 1 + s) ∨ n - 1 - s < l then n + i - l else l))) (fun t => ∃ g2, t = (1, g2) ∧ ∀ l, l < n → g2 l = nI (o (rvv n i l))) (by
    rintro s ⟨a, b, g⟩ hs ⟨rfl, rfl, hg⟩
    have hg : ∀ l, l < n → g l = nI (o (if (i < l ∧ l < i + 1 + s) ∨ n - 1 - s < l then n + i - l else l)) := hg
    show (∃ q2, bX8_nextOrder_100 (nI (i + 1 + s)) (nI (n - 1 - s)) g = _ ∧ _) ∨ _
    left
    unfold bX8_nextOrder_100
    simp only [lt_]
    have e1 : nI (n - 1 - s) + (-1) = nI (n - 1 - (s + 1)) := by
      rw [show n - 1 - s = n - 1 - (s + 1) + 1 by omega, pk_m1]
    rw [brF (nI_ge (by omega) (by omega)), nI_clamp (by omega), nI_clamp (by omega), gd_eq ⟨nI_pos (by omega), by omega⟩, gd_eq ⟨nI_pos (by omega), by omega⟩, gd_eq ⟨nI_pos (by omega), by omega⟩, gd_eq ⟨nI_pos (by omega), by omega⟩, nI_1, e1]
    refine ⟨_, rfl, rfl, rfl, fun l hl => ?_⟩
    show upd (upd g (i + 1 + s) (g (n - 1 - s))) (n - 1 - s) (g (i + 1 + s)) l = _
    by_cases c1 : l = n - 1 - s
    · rw [c1, pk_us, hg _ (by omega), if_neg (by omega), if_pos (by omega)]
      rw [show n + i - (n - 1 - s) = i + 1 + s by omega]
    · rw [pk_un c1]
      by_cases c2 : l = i + 1 + s
      · rw [c2, pk_us, hg _ (by omega), if_neg (by omega), if_pos (by omega)]
        rw [show n + i - (i + 1 + s) = n - 1 - s by omega]
      · rw [pk_un c2, hg l hl]
        by_cases c3 : (i < l ∧ l < i + 1 + s) ∨ n - 1 - s < l
        · rw [if_pos c3, if_pos (by omega)]
        · rw [if_neg c3, if_neg (by omega)]) (by
    rintro ⟨a, b, g⟩ ⟨rfl, rfl, hg⟩
    have hg : ∀ l, l < n → g l = nI (o (if (i < l ∧ l < i + 1 + (n - i - 1) / 2) ∨ n - 1 - (n - i - 1) / 2 < l then n + i - l else l)) := hg
    show ∃ t, bX8_nextOrder_100 (nI (i + 1 + (n - i - 1) / 2)) (nI (n - 1 - (n - i - 1) / 2)) g = _ ∧ _
    unfold bX8_nextOrder_100
    rw [brT (nI_le (by omega) (by omega)), gd_eq (by decide)]
    refine ⟨_, rfl, g, rfl, fun l hl => ?_⟩
    rw [hg l hl]
    unfold rvv
    by_cases c : l ≤ i
    · rw [if_neg (by omega), if_pos c]
    · rw [if_neg c]
      by_cases c3 : (i < l ∧ l < i + 1 + (n - i - 1) / 2) ∨ n - 1 - (n - i - 1) / 2 < l
      · rw [if_pos c3]
      · rw [if_neg c3, show n + i - l = l by omega]) (q := (nI i + 1, nI n - 1, g)) ⟨nI_1 i, (by
      show nI n - 1 = nI (n - 1 - 0)
      rw [show (1 : Int32) = nI 1 from rfl, pk_sub (by omega)]; rfl), fun l hl => by
      rw [if_neg (by omega)]; exact hg l hl⟩
  obtain ⟨t, h1, g2, rfl, h2⟩ := key
  exact ⟨g2, h1, h2⟩
/-- what the next order is -/
def NX (o : Nat → Nat) (n : Nat) (t : Int32 × (Nat → Int32)) : Prop := (t.1 = 0 ∧ desc o 0 n) ∨ (t.1 = 1 ∧ ∃ i k, i < k ∧ k < n ∧ desc o (i + 1) n ∧ o i < o k ∧ (∀ l, k < l → l < n → o l < o i) ∧ ∀ l, l < n → t.2 l = nI (nxo o n i k l))
theorem no41 {o : Nat → Nat} {n i : Nat} (hn : n ≤ 7) (ho : isP o n) (hi : i + 1 < n) {g : Nat → Int32} (hg : ∀ l, l < n → g l = nI (o l)) (hd : desc o (i + 1) n) (h1 : o i < o (i + 1)) :
    ∀ j, i + 1 + j < n → (∀ l, i + 1 + j < l → l < n → o l < o i) → ∃ t, run (sX8_nextOrder_41 (nI n) (nI i) g) (nI (i + 1 + j)) = some t ∧ NX o n t := by
  intro j
  have fin : ∀ k, i < k → k < n → o i < o k → (∀ l, k < l → l < n → o l < o i) → ∃ t, run (sX8_nextOrder_41 (nI n) (nI i) g) (nI k) = some t ∧ NX o n t := by
    intro k hik hk hgt hmax
    have b1 := ho.1 i (by omega)
    have b2 := ho.1 k hk
    have hgs : ∀ l, l < n → upd (upd g i (nI (o k))) k (nI (o i)) l = nI (o (trp i k l)) := by
      intro l hl
      by_cases c1 : l = k
      · rw [c1, pk_us, trp_k hik]
      · rw [pk_un c1]
        by_cases c2 : l = i
        · rw [c2, pk_us, trp_i]
        · rw [pk_un c2, trp_o c2 c1]; exact hg l hl
    obtain ⟨g2, r1, r2⟩ := no100 (o := fun l => o (trp i k l)) hn (show i < n by omega) hgs
    refine ⟨(1, g2), ?_, Or.inr ⟨rfl, i, k, hik, hk, hd, hgt, hmax, r2⟩⟩
    refine run_inr ?_
    show bX8_nextOrder_41 (nI n) (nI i) g (nI k) = _
    unfold bX8_nextOrder_41
    simp only [lt_]
    rw [nI_clamp (by omega), nI_clamp (by omega), hg i (by omega), hg k hk, gd_eq ⟨nI_pos (by omega), by omega⟩, gd_eq ⟨nI_pos (by omega), by omega⟩, brT (nI_le (by omega) (by omega)), gd_eq ⟨nI_pos (by omega), by omega⟩, gd_eq ⟨nI_pos (by omega), by omega⟩, gd_eq ⟨nI_pos (by omega), by omega⟩, gd_eq ⟨nI_pos (by omega), by omega⟩, r1]
    rfl
  induction j with
  | zero =>
    intro hj hmax
    exact fin (i + 1 + 0) (by omega) hj h1 hmax
  | succ j ih =>
    intro hj hmax
    by_cases c : o i < o (i + 1 + (j + 1))
    · exact fin _ (by omega) hj c hmax
    · have b1 := ho.1 i (by omega)
      have b2 := ho.1 _ hj
      have hne : o i ≠ o (i + 1 + (j + 1)) := fun z => by have := ho.2 _ _ (by omega) hj z; omega
      have st : sX8_nextOrder_41 (nI n) (nI i) g (nI (i + 1 + (j + 1))) = some (.inl (nI (i + 1 + j))) := by
        show bX8_nextOrder_41 (nI n) (nI i) g (nI (i + 1 + (j + 1))) = _
        unfold bX8_nextOrder_41
        simp only [lt_]
        rw [nI_clamp (by omega), nI_clamp (by omega), hg i (by omega), hg _ hj, gd_eq ⟨nI_pos (by omega), by omega⟩, gd_eq ⟨nI_pos (by omega), by omega⟩, brF (nI_ge (by omega) (by omega)), show i + 1 + (j + 1) = i + 1 + j + 1 by omega, pk_m1]
      rw [run_inl st]
      refine ih (by omega) (fun l hl hln => ?_)
      by_cases e : l = i + 1 + (j + 1)
      · rw [e]; omega
      · exact hmax l (by omega) hln
theorem no4 {o : Nat → Nat} {n : Nat} (h1 : 1 ≤ n) (hn : n ≤ 7) (ho : isP o n) {g : Nat → Int32} (hg : ∀ l, l < n → g l = nI (o l)) :
    ∀ j, j < n → desc o j n → ∃ t, run (sX8_nextOrder_4 (nI n) g) (nI j + (-1)) = some t ∧ NX o n t := by
  intro j
  induction j with
  | zero =>
    intro _ hd
    refine ⟨(0, g), run_inr ?_, Or.inl ⟨rfl, hd⟩⟩
    show bX8_nextOrder_4 (nI n) g (nI 0 + (-1)) = _
    unfold bX8_nextOrder_4 bX8_nextOrder_31
    rw [brT (by decide), brF (by decide), gd_eq (by decide)]
    rfl
  | succ j ih =>
    intro hj hd
    have b1 := ho.1 j (by omega)
    have b2 := ho.1 (j + 1) hj
    rw [pk_m1]
    have head : sX8_nextOrder_4 (nI n) g (nI j) = br (nI (o j) ≤ nI (o (j + 1))) (ml (bX8_nextOrder_31 (nI n) (nI j) g)) (some (.inl (nI j + (-1)))) := by
      show bX8_nextOrder_4 (nI n) g (nI j) = _
      unfold bX8_nextOrder_4
      simp only [lt_]
      rw [brF (nI_pos (by omega)), nI_1, nI_clamp (by omega), nI_clamp (by omega), gd_eq ⟨nI_pos (by omega), by omega⟩, gd_eq ⟨nI_pos (by omega), by omega⟩, hg j (by omega), hg (j + 1) hj]
    by_cases c : o j ≤ o (j + 1)
    · have hne : o j ≠ o (j + 1) := fun z => by have := ho.2 _ _ (by omega) hj z; omega
      obtain ⟨t, r1, r2⟩ := no41 hn ho hj hg hd (by omega) (n - 2 - j) (by omega) (fun l h1 h2 => by omega)
      refine ⟨t, run_inr ?_, r2⟩
      rw [head, brT (nI_le c (by omega))]
      unfold bX8_nextOrder_31
      simp only [lt_]
      have e1 : nI n - 1 = nI (j + 1 + (n - 2 - j)) := by
        rw [show (1 : Int32) = nI 1 from rfl, pk_sub (by omega), show n - 1 = j + 1 + (n - 2 - j) by omega]
      rw [brT (nI_pos' (by omega)), e1, r1]
      rfl
    · have st : sX8_nextOrder_4 (nI n) g (nI j) = some (.inl (nI j + (-1))) := by
        rw [head, brF (nI_ge (by omega) (by omega))]
      rw [run_inl st]
      refine ih (by omega) (fun l l' h1 h2 h3 => ?_)
      by_cases e : l = j
      · subst e
        by_cases e2 : l' = l + 1
        · subst e2; omega
        · have := hd (l + 1) l' (by omega) (by omega) h3
          omega
      · exact hd l l' (by omega) h2 h3
theorem nextOrder8 {o : Nat → Nat} {n : Nat} (h1 : 1 ≤ n) (hn : n ≤ 7) (ho : isP o n) {g : Nat → Int32} (hg : ∀ l, l < n → g l = nI (o l)) : ∃ t, fX8_nextOrder (nI n) g = some t ∧ NX o n t := by
  unfold fX8_nextOrder
  simp only [lt_]
  have e1 : nI n - 2 = nI (n - 1) + (-1) := by
    obtain ⟨m, rfl⟩ : ∃ m, n = m + 1 := ⟨n - 1, by omega⟩
    have e2 : nI (m + 1) - 2 = nI (m + 1) - 1 - 1 := by
      rw [Int32.sub_eq_add_neg, Int32.sub_eq_add_neg, Int32.sub_eq_add_neg, Int32.add_assoc]
      rfl
    rw [e2, nI_pred, Int32.sub_eq_add_neg]
    rfl
  rw [e1]
  exact no4 h1 hn ho hg (n - 1) (by omega) (fun l l' h1 h2 h3 => by omega)
