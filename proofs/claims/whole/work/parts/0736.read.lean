/-- two runs side by side -/
theorem run_two {L M T U : Type} {s1 : L → Option (L ⊕ T)} {s2 : M → Option (M ⊕ U)} (I : L → M → Prop) (μ : L → Nat) (P : T → U → Prop) (hs : ∀ q r, I q r → (∃ q2 r2, s1 q = some (.inl q2) ∧ s2 r = some (.inl r2) ∧ I q2 r2 ∧ μ q2 < μ q) ∨ (∃ t u, s1 q = some (.inr t) ∧ s2 r = some (.inr u) ∧ P t u)) : ∀ k q r, μ q < k → I q r → ∃ t u, run s1 q = some t ∧ run s2 r = some u ∧ P t u := by
  intro k
  induction k with
  | zero => intro q r h; omega
  | succ k ih =>
    intro q r h hI
    rcases hs q r hI with ⟨q2, r2, h1, h2, h3, h4⟩ | ⟨t, u, h1, h2, h3⟩
    · rw [run_inl h1, run_inl h2]
      exact ih q2 r2 (by omega) h3
    · exact ⟨t, u, run_inr h1, run_inr h2, h3⟩
theorem valu_le {T : Nat → Nat} (i : Nat) : valu T i ≤ 99 := by
  unfold valu
  by_cases e1 : isF T i = true
  · have := isF_iff.mp e1
    rw [if_pos e1]
    by_cases e2 : isF T (i + 1) = true
    · have := isF_iff.mp e2
      rw [if_pos e2]; omega
    · rw [if_neg e2]; omega
  · rw [if_neg e1]; omega
theorem figs_le {T : Nat → Nat} (i : Nat) : figs T i ≤ 2 := by
  unfold figs
  by_cases e1 : isF T i = true
  · rw [if_pos e1]
    by_cases e2 : isF T (i + 1) = true
    · rw [if_pos e2]; omega
    · rw [if_neg e2]; omega
  · rw [if_neg e1]; omega
/-- the numbers read so far: of the class as bits m, of the reference as row rd over rd0 at slot k -/
def NR (k : Nat) (rd0 : Nat → Int32) (m : Int64) (rd : Nat → Int32) : Prop := (∀ v, 41 ≤ v → bi m v = false) ∧ (∀ v, v < 41 → is01 (rd (41 * k + v)) (bi m v = true)) ∧ ∀ i, ¬ (41 * k ≤ i ∧ i < 41 * k + 41) → rd i = rd0 i
theorem NR.add {k : Nat} {rd0 rd : Nat → Int32} {m : Int64} (h : NR k rd0 m rd) {v : Nat} (hv : v < 41) : NR k rd0 (m ||| ((1 : Int64) <<< ((nI v).toInt64 &&& 63))) (upd rd (41 * k + v) 1) := by
  refine ⟨fun u hu => ?_, fun u hu => ?_, fun i hi => ?_⟩
  · rw [bi_or, bi_one (by omega), h.1 u hu, decide_eq_false (by omega)]; rfl
  · by_cases e : u = v
    · subst e
      rw [pk_us, bi_or, bi_one (by omega), decide_eq_true rfl, Bool.or_true]
      exact is01.yes rfl
    · rw [pk_un (by omega), bi_or, bi_one (by omega), decide_eq_false e, Bool.or_false]
      exact h.2.1 u hu
  · rw [pk_un (by omega)]; exact h.2.2 i hi
/-- the place behind a last number told so far: l = 0 none, l = v + 1 the number v -/
theorem numbers_eq {le mt : Nat → Int32} {n : Nat} {T : Nat → Nat} (h : TX le mt n T) {k : Nat} (hk : k < 4) {rd0 rd : Nat → Int32} {p : Nat} (hp : p ≤ n + 4) (hR : NR k rd0 0 rd) :
    ∃ r m ok sp rd2, fX3_readNumbers (nI p) (nI n) 0 le = some (r, m) ∧ run (sX8_item_58 115 (nI k) (nI n) mt) ((-1 : Int32), nI p, rd) = some (ok, sp, rd2) ∧ ((r = -1 ∧ ok = 0) ∨ (ok = 1 ∧ ∃ b, r = nI b ∧ sp = nI b ∧ p ≤ b ∧ b ≤ n + 4 ∧ NR k rd0 m rd2)) := by
  have hn := h.1
  obtain ⟨t, u, h1, h2, h3⟩ := run_two (s1 := sX3_readNumbers_4 (nI n) le) (s2 := sX8_item_58 115 (nI k) (nI n) mt) (fun q r => ∃ b l, q.1 = nI b ∧ q.2.1 = nI l - 1 ∧ r.1 = nI l - 1 ∧ r.2.1 = nI b ∧ l ≤ 41 ∧ p ≤ b ∧ b ≤ n + 4 ∧ NR k rd0 q.2.2 r.2.2) (fun q => 300 - q.1.toNatClampNeg) (fun t u => (t.1 = -1 ∧ u.1 = 0) ∨ (u.1 = 1 ∧ ∃ b, t.1 = nI b ∧ u.2.1 = nI b ∧ p ≤ b ∧ b ≤ n + 4 ∧ NR k rd0 t.2 u.2.2)) (by
    rintro ⟨x2, x3, m⟩ ⟨y3, y2, rd⟩ ⟨b, l, rfl, rfl, rfl, rfl, hl, hb0, hb, hN⟩
    show (∃ q2 r2, bX3_readNumbers_4 (nI n) le (nI b) (nI l - 1) m = _ ∧ bX8_item_58 115 (nI k) (nI n) mt (nI l - 1) (nI b) rd = _ ∧ _) ∨ (∃ t u, bX3_readNumbers_4 (nI n) le (nI b) (nI l - 1) m = _ ∧ bX8_item_58 115 (nI k) (nI n) mt (nI l - 1) (nI b) rd = _ ∧ _)
    have hneg : nI l - 1 < 0 ↔ l = 0 := by
      rcases Nat.eq_zero_or_pos l with e | e
      · subst e; exact ⟨fun _ => rfl, fun _ => by decide⟩
      · rw [show (1 : Int32) = nI 1 from rfl, pk_sub e]
        exact ⟨fun z => absurd z (nI_pos (by omega)), fun z => absurd z (by omega)⟩
    have e81 : bX8_item_81 115 (nI k) (nI l - 1) (nI n) (nI b) mt rd = br (nI (T b) = 44) (bd (fX8_number (nI l) (nI 40) (nI n) (nI (b + 1)) mt) (fun u8 => bX8_item_119 115 (nI k) u8.1 (nI n) u8.2 mt rd)) (bX8_item_119 115 (nI k) (-1) (nI n) (nI (b + 1)) mt rd) := by
      unfold bX8_item_81
      simp only [lt_]
      rw [nI_1, show nI (b + 1) - 1 = nI b from nI_pred b, bd_eq (letter8 h (by omega)), Int32.sub_add_cancel]
      rfl
    have e89 : bX3_readNumbers_89 (nI b) (nI l - 1) (nI n) m le = some (if l = 0 then -1 else nI b, m) := by
      unfold bX3_readNumbers_89
      by_cases e : l = 0
      · rw [if_pos e, brF (fun z => Int32.not_lt.mpr z (hneg.mpr e))]
      · rw [if_neg e, brT (Int32.not_lt.mp (fun z => e (hneg.mp z)))]
    unfold bX3_readNumbers_4 bX8_item_58
    rw [e89, e81, brT (show (115 : Int32) = 115 from rfl), bd_eq (letter8 h (by omega)), bd_eq (letter7 h (by omega))]
    have ht := h.le b
    by_cases hc : T b = 44
    · have hbn : b < n := h.lt (by omega)
      have hf := figs_le (T := T) (b + 1)
      have hv := valu_le (T := T) (b + 1)
      have e44 : nI (T b) = 44 := by rw [hc]; rfl
      have e58 : ∀ z : Option ((Int32 × Int32 × (Nat → Int32)) ⊕ (Int32 × Int32 × (Nat → Int32))), br (nI l - 1 < 0) z (br (nI (T b) = 44) z (gd ((1 : Int32) = 0 ∨ (1 : Int32) = 1) (some (Sum.inr ((1 : Int32), nI b, rd))))) = z := by
        intro z
        rw [brT e44]
        by_cases e : nI l - 1 < 0
        · rw [brT e]
        · rw [brF e]
      rw [brF (nI_ge hbn (by omega)), brT e44, e58, brT e44, nI_1, bd_eq (figures7 h (by omega)), bd_eq (value7 h (by omega)), bd_eq (number8 h (by omega) (by omega) (by omega))]
      by_cases hz : figs T (b + 1) = 0
      · right
        rw [brT (show nI (figs T (b + 1)) = 0 by rw [hz]; rfl), if_neg (by omega)]
        unfold bX8_item_119
        rw [brT rfl, gd_eq (Or.inl rfl)]
        exact ⟨_, _, rfl, rfl, Or.inl ⟨rfl, rfl⟩⟩
      · rw [brF (nI_ne0 (by omega) (by omega))]
        by_cases hv41 : valu T (b + 1) < 41
        · rw [bd_eq (isNum_in _ hv41), brF (by decide)]
          by_cases hlv : l ≤ valu T (b + 1)
          · left
            have hlt : nI l - 1 < nI (valu T (b + 1)) := by
              rcases Nat.eq_zero_or_pos l with e | e
              · subst e
                exact Int32.lt_of_lt_of_le (show nI 0 - 1 < 0 by decide) (nI_pos' (by omega))
              · rw [show (1 : Int32) = nI 1 from rfl, pk_sub e]
                exact nI_lt (by omega) (by omega)
            have h1v : ¬ nI (valu T (b + 1)) = (-1 : Int32) := by
              intro z
              have := nI_pos (n := valu T (b + 1)) (by omega)
              rw [z] at this
              exact this (by decide)
            rw [brT hlt, if_pos (by omega)]
            unfold bX8_item_119
            simp only [lt_]
            rw [brF h1v, show (41 : Int32) = nI 41 from rfl, pk_mul, nI_add, nI_clamp (by omega), gd_eq ⟨nI_pos (by omega), by omega⟩]
            refine ⟨_, _, rfl, rfl, ⟨b + 1 + figs T (b + 1), valu T (b + 1) + 1, ?_, ?_, ?_, rfl, by omega, by omega, by omega, hN.add hv41⟩, ?_⟩
            · show nI b + (1 + nI (figs T (b + 1))) = _
              rw [show (1 : Int32) = nI 1 from rfl, nI_add, nI_add]; congr 1; omega
            · exact (nI_pred _).symm
            · exact (nI_pred _).symm
            · show 300 - (nI b + (1 + nI (figs T (b + 1)))).toNatClampNeg < 300 - (nI b).toNatClampNeg
              rw [show (1 : Int32) = nI 1 from rfl, nI_add, nI_add, nI_clamp (by omega), nI_clamp (by omega)]
              omega
          · right
            have hlt : ¬ nI l - 1 < nI (valu T (b + 1)) := by
              rw [show (1 : Int32) = nI 1 from rfl, pk_sub (by omega)]
              exact nI_nlt (by omega) (by omega)
            rw [brF hlt, if_neg (by omega)]
            unfold bX8_item_119
            rw [brT rfl, gd_eq (Or.inl rfl)]
            exact ⟨_, _, rfl, rfl, Or.inl ⟨rfl, rfl⟩⟩
        · right
          rw [bd_eq (isNum_out (Or.inr (nI_le (by omega) (by omega)))), brT rfl, if_neg (by omega)]
          unfold bX8_item_119
          rw [brT rfl, gd_eq (Or.inl rfl)]
          exact ⟨_, _, rfl, rfl, Or.inl ⟨rfl, rfl⟩⟩
    · right
      have e44 : ¬ nI (T b) = 44 := fun z => hc ((nI_eq (b := 44) (by omega) (by omega)).mp z)
      have e7 : br (nI n ≤ nI b) (ml (some (if l = 0 then (-1 : Int32) else nI b, m))) (ml (some (if l = 0 then (-1 : Int32) else nI b, m))) = (some (.inr (if l = 0 then (-1 : Int32) else nI b, m)) : Option ((Int32 × Int32 × Int64) ⊕ (Int32 × Int64))) := by
        by_cases e : nI n ≤ nI b
        · rw [brT e]; rfl
        · rw [brF e]; rfl
      rw [brF e44, brF e44, brF e44, e7]
      by_cases e : l = 0
      · rw [brT (hneg.mpr e), if_pos e]
        unfold bX8_item_119
        rw [brT rfl, gd_eq (Or.inl rfl)]
        exact ⟨_, _, rfl, rfl, Or.inl ⟨rfl, rfl⟩⟩
      · rw [brF (fun z => e (hneg.mp z)), if_neg e, gd_eq (Or.inr rfl)]
        exact ⟨_, _, rfl, rfl, Or.inr ⟨rfl, b, rfl, rfl, hb0, hb, hN⟩⟩) 301 (nI p, (-1 : Int32), 0) ((-1 : Int32), nI p, rd) (by
      show 300 - _ < 301
      omega) ⟨p, 0, rfl, rfl, rfl, rfl, by omega, Nat.le_refl _, hp, hR⟩
  obtain ⟨r, m⟩ := t
  obtain ⟨ok, sp, rd2⟩ := u
  exact ⟨r, m, ok, sp, rd2, h1, h2, h3⟩
