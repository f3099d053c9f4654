theorem m1_cases {q : Int32} (h : (-1 : Int32) ≤ q) : q = -1 ∨ (¬ q < 0) := by
  by_cases e : q = -1
  · exact Or.inl e
  · right
    intro z
    rw [Int32.le_iff_toInt_le] at h
    rw [Int32.lt_iff_toInt_lt] at z
    have e1 : (-1 : Int32).toInt = -1 := by decide
    have e0 : (0 : Int32).toInt = 0 := by decide
    exact e (Int32.toInt_inj.mp (by omega))
theorem core_member {sl : Nat → Int64} {nw : Nat → Int32} (h : RS sl nw) (q w : Int32) (fi : Nat → Int32) : ∃ r fi2, fX7_member q w sl = some r ∧ fX8_member q w nw fi = some (r, fi2) := by
  rcases slot_cases q with ⟨j, hj, rfl⟩ | hq
  · by_cases h1 : (-1 : Int32) ≤ w
    · have hcn := cn_le sl j
      have e7 : fX7_member (nI j) w sl = br (w = (-1 : Int32)) (some (nI (cn sl j))) (bd (fX7_numberAt (sl j) w) (fun u6 => some u6)) := by
        unfold fX7_member
        rw [bd_eq (isSlot_in j hj), brF (by decide), brT h1, cl4 hj, g4 hj, g4 hj, h.bc hj]
        rfl
      have e8 : fX8_member (nI j) w nw fi = br (0 ≤ w) (br (nI (cn sl j) ≤ w) (some (-4, lsF (bi (sl j)) fi 41)) (gd (¬ w < 0 ∧ w.toNatClampNeg < 41) (some (lsF (bi (sl j)) fi 41 w.toNatClampNeg, lsF (bi (sl j)) fi 41)))) (some (nI (cn sl j), lsF (bi (sl j)) fi 41)) := by
        unfold fX8_member
        rw [bd_eq (isSlot8_in j hj), brF (by decide), brT h1, bd_eq (lists8_eq h hj fi)]
      rw [e7, e8]
      rcases m1_cases h1 with rfl | h0
      · rw [brT rfl, brF (by decide)]
        exact ⟨_, _, rfl, rfl⟩
      · rw [brF (fun z => h0 (by rw [z]; decide)), brT (Int32.not_lt.mp h0)]
        by_cases hc : nI (cn sl j) ≤ w
        · rw [brT hc, numberAt_none (Or.inr (by rw [ct41 (h j hj).2]; exact hc))]
          exact ⟨_, _, rfl, rfl⟩
        · rw [brF hc]
          obtain ⟨i, hi, rfl⟩ := nI_of h0
          have hic : i < cn sl j := by
            rcases Nat.lt_or_ge i (cn sl j) with z | z
            · exact z
            · exact absurd (nI_le z hi) hc
          obtain ⟨v, v1, v2, v3⟩ := fb_ct_kth (p := bi (sl j)) (k := i) (n := 41) hic
          rw [numberAt_eq (by omega) v2 v3, nI_clamp hi, gd_eq ⟨nI_pos hi, by omega⟩]
          refine ⟨nI v, lsF (bi (sl j)) fi 41, rfl, ?_⟩
          rw [← v3, lsF_at v1 v2]
    · refine ⟨-1, fi, ?_, ?_⟩
      · unfold fX7_member
        rw [bd_eq (isSlot_in j hj), brF (by decide), brF h1]
      · unfold fX8_member
        rw [bd_eq (isSlot8_in j hj), brF (by decide), brF h1]
  · refine ⟨-1, fi, ?_, ?_⟩
    · unfold fX7_member
      rw [bd_eq (isSlot_out hq), brT rfl]
    · unfold fX8_member
      rw [bd_eq (isSlot8_out hq), brT rfl]
/-! the greatest divisor -/
theorem gd7_run : ∀ (f t a b : Nat), b ≤ f → f + t ≤ 64 → a < 2 ^ 31 → b < 2 ^ 31 → run sX7_greatestDivisor_7 (nI a, nI b, nI t) = some (nI (Nat.gcd b a)) := by
  intro f
  induction f with
  | zero =>
    intro t a b h1 h2 ha hb
    have e : b = 0 := by omega
    subst e
    refine run_inr ?_
    show bX7_greatestDivisor_7 (nI a) (nI 0) (nI t) = _
    unfold bX7_greatestDivisor_7
    rw [Nat.gcd_zero_left]
    by_cases ht : (64 : Int32) ≤ nI t
    · rw [brT ht]
    · rw [brF ht, brT (show nI 0 = (0 : Int32) from rfl)]
  | succ f ih =>
    intro t a b h1 h2 ha hb
    by_cases e : b = 0
    · subst e
      exact ih t a 0 (by omega) (by omega) ha hb
    · have hm : a % b < b := Nat.mod_lt _ (by omega)
      have es : sX7_greatestDivisor_7 (nI a, nI b, nI t) = some (.inl (nI b, nI (a % b), nI (t + 1))) := by
        show bX7_greatestDivisor_7 (nI a) (nI b) (nI t) = _
        unfold bX7_greatestDivisor_7
        simp only [lt_]
        rw [brF (show ¬ (64 : Int32) ≤ nI t from nI_ge (b := 64) (by omega) (by omega)), brF (nI_ne0 (by omega) hb), gd_eq (nI_ne0 (by omega) hb), pk_rem ha (by omega) hb, nI_1]
      rw [run_inl es, ih (t + 1) b (a % b) (by omega) (by omega) hb (by omega), Nat.gcd_rec b a]
theorem gd7 {a b : Nat} (ha : a < 2 ^ 31) (hb : b ≤ 64) : fX7_greatestDivisor (nI a) (nI b) = some (nI (Nat.gcd b a)) := gd7_run 64 0 a b hb (by omega) ha (by omega)
theorem gd8_run : ∀ (f a b : Nat), b ≤ f → a < 2 ^ 31 → b < 2 ^ 31 → run sX8_common_4 (nI a, nI b) = some (nI (Nat.gcd b a)) := by
  intro f
  induction f with
  | zero =>
    intro a b h1 ha hb
    have e : b = 0 := by omega
    subst e
    refine run_inr ?_
    show bX8_common_4 (nI a) (nI 0) = _
    unfold bX8_common_4
    rw [Nat.gcd_zero_left, brT (by decide)]
  | succ f ih =>
    intro a b h1 ha hb
    by_cases e : b = 0
    · subst e
      exact ih a 0 (by omega) ha hb
    · have hm : a % b < b := Nat.mod_lt _ (by omega)
      have es : sX8_common_4 (nI a, nI b) = some (.inl (nI b, nI (a % b))) := by
        show bX8_common_4 (nI a) (nI b) = _
        unfold bX8_common_4
        simp only [lt_]
        rw [brF (nI_nle (by omega) hb), gd_eq (nI_ne0 (by omega) hb), pk_rem ha (by omega) hb]
      rw [run_inl es, ih b (a % b) (by omega) hb (by omega), Nat.gcd_rec b a]
theorem gd8 {a b : Nat} (ha : a < 2 ^ 31) (hb : b < 2 ^ 31) : fX8_common (nI a) (nI b) = some (nI (Nat.gcd b a)) := gd8_run b a b (Nat.le_refl b) ha hb
/-! the highest bit -/
theorem nI_m {a k : Nat} (h : k ≤ a) : nI a + -nI k = nI (a - k) := by rw [← Int32.sub_eq_add_neg, pk_sub h]
theorem us1 {n : Nat} (h : n < 2 ^ 32) : ((nI n).toUInt32 >>> ((1 : Int32).toUInt32 &&& Int32.toUInt32 31)).toInt32 = nI (n / 2) := pk_ushrN h 1 1 (by decide)
theorem us2 {n : Nat} (h : n < 2 ^ 32) : ((nI n).toUInt32 >>> ((2 : Int32).toUInt32 &&& Int32.toUInt32 31)).toInt32 = nI (n / 4) := pk_ushrN h 2 2 (by decide)
theorem us4 {n : Nat} (h : n < 2 ^ 32) : ((nI n).toUInt32 >>> ((4 : Int32).toUInt32 &&& Int32.toUInt32 31)).toInt32 = nI (n / 16) := pk_ushrN h 4 4 (by decide)
theorem us8 {n : Nat} (h : n < 2 ^ 32) : ((nI n).toUInt32 >>> ((8 : Int32).toUInt32 &&& Int32.toUInt32 31)).toInt32 = nI (n / 256) := pk_ushrN h 8 8 (by decide)
theorem us16 {n : Nat} (h : n < 2 ^ 32) : ((nI n).toUInt32 >>> ((16 : Int32).toUInt32 &&& Int32.toUInt32 31)).toInt32 = nI (n / 65536) := pk_ushrN h 16 16 (by decide)
/-- h is the highest bit of n -/
def hib (n h : Nat) : Prop := 2 ^ h ≤ n ∧ n < 2 ^ (h + 1)
theorem hib_div {n h k : Nat} (hh : hib n h) (hk : k ≤ h) : hib (n / 2 ^ k) (h - k) := by
  obtain ⟨h1, h2⟩ := hh
  have e1 : 2 ^ h = 2 ^ (h - k) * 2 ^ k := by rw [← Nat.pow_add]; congr 1; omega
  have e2 : 2 ^ (h + 1) = 2 ^ k * 2 ^ (h - k + 1) := by rw [← Nat.pow_add]; congr 1; omega
  refine ⟨?_, ?_⟩
  · rw [Nat.le_div_iff_mul_le (Nat.two_pow_pos k), ← e1]; exact h1
  · exact Nat.div_lt_of_lt_mul (by rw [← e2]; exact h2)
theorem hib_lt {n h k : Nat} (hh : hib n h) : n < 2 ^ k ↔ h < k := by
  obtain ⟨h1, h2⟩ := hh
  constructor
  · intro z
    rcases Nat.lt_or_ge h k with q | q
    · exact q
    · have := Nat.pow_le_pow_right (n := 2) (by omega) q
      omega
  · intro z
    have := Nat.pow_le_pow_right (n := 2) (by omega) (show h + 1 ≤ k from z)
    omega
theorem nz73 {n a h : Nat} (hh : hib n h) (h1 : h < 2) (ha : h ≤ a) : bJ6_numberOfLeadingZeros_0f7a4_73 (nI n) (nI a) = some (nI (a - h)) := by
  have hn := (hib_lt (k := 2) hh).mpr h1
  unfold bJ6_numberOfLeadingZeros_0f7a4_73
  rw [us1 (by omega)]
  have e : n / 2 = h := by
    obtain ⟨g1, g2⟩ := hh
    rcases (show h = 0 ∨ h = 1 by omega) with rfl | rfl <;> omega
  rw [e, pk_sub ha]
theorem nz61 {n a h : Nat} (hh : hib n h) (h1 : h < 4) (ha : h ≤ a) : bJ6_numberOfLeadingZeros_0f7a4_61 (nI n) (nI a) = some (nI (a - h)) := by
  have hn := (hib_lt (k := 4) hh).mpr h1
  unfold bJ6_numberOfLeadingZeros_0f7a4_61
  simp only [lt_]
  by_cases h2 : h < 2
  · rw [brT (show nI n < (4 : Int32) from nI_lt (b := 4) ((hib_lt (k := 2) hh).mpr h2) (by omega))]; exact nz73 hh h2 ha
  · have hge : 4 ≤ n := by
      rcases Nat.lt_or_ge n 4 with z | z
      · exact absurd ((hib_lt (k := 2) hh).mp z) h2
      · exact z
    rw [brF (show ¬ nI n < (4 : Int32) from nI_nlt (b := 4) hge (by omega)), us2 (by omega), show (-2 : Int32) = -nI 2 from rfl, nI_m (by omega), nz73 (hib_div (k := 2) hh (by omega)) (by omega) (by omega), show a - 2 - (h - 2) = a - h by omega]
theorem nz48 {n a h : Nat} (hh : hib n h) (h1 : h < 8) (ha : h ≤ a) : bJ6_numberOfLeadingZeros_0f7a4_48 (nI n) (nI a) = some (nI (a - h)) := by
  have hn := (hib_lt (k := 8) hh).mpr h1
  unfold bJ6_numberOfLeadingZeros_0f7a4_48
  simp only [lt_]
  by_cases h2 : h < 4
  · rw [brT (show nI n < (16 : Int32) from nI_lt (b := 16) ((hib_lt (k := 4) hh).mpr h2) (by omega))]; exact nz61 hh h2 ha
  · have hge : 16 ≤ n := by
      rcases Nat.lt_or_ge n 16 with z | z
      · exact absurd ((hib_lt (k := 4) hh).mp z) h2
      · exact z
    rw [brF (show ¬ nI n < (16 : Int32) from nI_nlt (b := 16) hge (by omega)), us4 (by omega), show (-4 : Int32) = -nI 4 from rfl, nI_m (by omega), nz61 (hib_div (k := 4) hh (by omega)) (by omega) (by omega), show a - 4 - (h - 4) = a - h by omega]
theorem nz33 {n a h : Nat} (hh : hib n h) (h1 : h < 16) (ha : h ≤ a) : bJ6_numberOfLeadingZeros_0f7a4_33 (nI n) (nI a) = some (nI (a - h)) := by
  have hn := (hib_lt (k := 16) hh).mpr h1
  unfold bJ6_numberOfLeadingZeros_0f7a4_33
  simp only [lt_]
  by_cases h2 : h < 8
  · rw [brT (show nI n < (256 : Int32) from nI_lt (b := 256) ((hib_lt (k := 8) hh).mpr h2) (by omega))]; exact nz48 hh h2 ha
  · have hge : 256 ≤ n := by
      rcases Nat.lt_or_ge n 256 with z | z
      · exact absurd ((hib_lt (k := 8) hh).mp z) h2
      · exact z
    rw [brF (show ¬ nI n < (256 : Int32) from nI_nlt (b := 256) hge (by omega)), us8 (by omega), show (-8 : Int32) = -nI 8 from rfl, nI_m (by omega), nz48 (hib_div (k := 8) hh (by omega)) (by omega) (by omega), show a - 8 - (h - 8) = a - h by omega]
theorem nlz32 {n h : Nat} (hh : hib n h) (h1 : h < 32) : fJ6_numberOfLeadingZeros_0f7a4 (nI n) = some (nI (31 - h)) := by
  have hn := (hib_lt (k := 32) hh).mpr h1
  have hpos : 0 < n := Nat.lt_of_lt_of_le (Nat.two_pow_pos h) hh.1
  unfold fJ6_numberOfLeadingZeros_0f7a4
  simp only [lt_]
  by_cases h31 : h < 31
  · have hn31 := (hib_lt (k := 31) hh).mpr h31
    rw [brT (show (0 : Int32) < nI n from nI_lt (a := 0) hpos hn31)]
    by_cases h2 : h < 16
    · rw [brT (show nI n < (65536 : Int32) from nI_lt (b := 65536) ((hib_lt (k := 16) hh).mpr h2) (by omega))]; exact nz33 (a := 31) hh h2 (by omega)
    · have hge : 65536 ≤ n := by
        rcases Nat.lt_or_ge n 65536 with z | z
        · exact absurd ((hib_lt (k := 16) hh).mp z) h2
        · exact z
      rw [brF (show ¬ nI n < (65536 : Int32) from nI_nlt (b := 65536) hge (by omega)), us16 (by omega), show (31 : Int32) + (-16 : Int32) = nI 15 from by decide, nz33 (hib_div (k := 16) hh (by omega)) (by omega) (by omega), show 15 - (h - 16) = 31 - h by omega]
  · have e : h = 31 := by omega
    subst e
    have hge := hh.1
    have hneg : (nI n).toInt < 0 := by
      have e1 : (nI n).toInt = ((n : Int) - 4294967296) := by
        show (BitVec.ofNat 32 n).toInt = _
        rw [BitVec.toInt_eq_toNat_cond, BitVec.toNat_ofNat, Nat.mod_eq_of_lt hn, if_neg (by omega)]
        omega
      omega
    rw [brF, brF]
    · rfl
    · intro z; rw [z] at hneg; exact absurd hneg (by decide)
    · intro z
      rw [Int32.lt_iff_toInt_lt] at z
      have e0 : (0 : Int32).toInt = 0 := by decide
      omega
