/-! the bits of an int -/
theorem i_of (x : Int32) : ∃ n, n < 2 ^ 32 ∧ x = nI n := ⟨x.toBitVec.toNat, x.toBitVec.isLt, Int32.toBitVec_inj.mp (by
  show x.toBitVec = BitVec.ofNat 32 x.toBitVec.toNat
  rw [BitVec.ofNat_toNat, BitVec.setWidth_eq])⟩
theorem dig4 {c0 c1 c2 c3 C1 C2 c d1 d2 : Nat} (h0 : c0 ≤ 8) (h1 : c1 ≤ 8) (h2 : c2 ≤ 8) (h3 : c3 ≤ 8) (hc : c = c0 + 256 * C1) (hC1 : C1 = c1 + 256 * C2) (hC2 : C2 = c2 + 256 * c3)
    (hd1 : d1 = c + c / 256) (hd2 : d2 = d1 + d1 / 65536) : d2 % 64 = c0 + c1 + c2 + c3 := by
  rw [dig_a h0 h1 h2 hc hC1 hC2] at hd1
  have e2 : d1 / 65536 = C2 + c3 := by rw [hd1]; exact dig_b (by omega) (by omega)
  rw [e2] at hd2
  omega
theorem pc32 (n : Nat) : pc 32 n = pc 8 (n % 256) + pc 8 (n / 256 % 256) + pc 8 (n / 256 / 256 % 256) + pc 8 (n / 256 / 256 / 256 % 256) := by
  have hm : ∀ m, pc 8 (m % 256) = pc 8 m := fun m => pc_mod 8 m
  rw [hm, hm, hm, hm]
  rw [show (32 : Nat) = 8 + (8 + (8 + 8)) from rfl, pc_add, pc_add, pc_add]
  rw [show (2 : Nat) ^ 8 = 256 from rfl]
  omega
theorem bc32N {n : Nat} (h : n < 2 ^ 32) : fJ6_bitCount_0f7a4 (nI n) = some (nI (pc 32 n)) := by
  have hM5 : m5 4 = 1431655765 := by decide
  have hM3 : m3 4 = 858993459 := by decide
  have hMf : mf 4 = 252645135 := by decide
  have hsw := swar 4 n (by rw [show (256 : Nat) ^ 4 = 2 ^ 32 from rfl]; exact h)
  unfold fJ6_bitCount_0f7a4
  have s1 : nI n - (((nI n).toUInt32 >>> ((1 : Int32).toUInt32 &&& Int32.toUInt32 31)).toInt32 &&& (1431655765 : Int32)) = nI (sA 4 n) := by
    rw [us1 h, show (1431655765 : Int32) = nI 1431655765 from rfl, fa_and, pk_sub]
    · unfold sA; rw [hM5]
    · have := Nat.and_le_left (n := n / 2) (m := 1431655765)
      omega
  rw [lt_v s1]
  have ha : sA 4 n < 2 ^ 32 := Nat.lt_of_le_of_lt (Nat.sub_le _ _) h
  generalize sA 4 n = a at hsw ha
  have s2 : (nI a &&& (858993459 : Int32)) + (((nI a).toUInt32 >>> ((2 : Int32).toUInt32 &&& Int32.toUInt32 31)).toInt32 &&& (858993459 : Int32)) = nI (sB 4 a) := by
    rw [us2 ha, show (858993459 : Int32) = nI 858993459 from rfl, fa_and, fa_and, nI_add]
    unfold sB; rw [hM3]
  rw [lt_v s2]
  have hb : sB 4 a ≤ 1717986918 := by
    unfold sB
    rw [hM3]
    have h1 := Nat.and_le_right (n := a) (m := 858993459)
    have h2 := Nat.and_le_right (n := a / 4) (m := 858993459)
    omega
  generalize sB 4 a = b at hsw hb
  have s3 : (nI b + ((nI b).toUInt32 >>> ((4 : Int32).toUInt32 &&& Int32.toUInt32 31)).toInt32) &&& (252645135 : Int32) = nI (dg 4 n) := by
    rw [us4 (by omega), nI_add, show (252645135 : Int32) = nI 252645135 from rfl, fa_and, ← hsw]
    unfold sC; rw [hMf]
  rw [lt_v s3]
  have hcb : dg 4 n ≤ 252645135 := by
    rw [← hsw]; unfold sC; rw [hMf]; exact Nat.and_le_right
  obtain ⟨c, ec⟩ : ∃ c, c = dg 4 n := ⟨_, rfl⟩
  rw [← ec] at hcb ⊢
  have s4 : nI c + ((nI c).toUInt32 >>> ((8 : Int32).toUInt32 &&& Int32.toUInt32 31)).toInt32 = nI (c + c / 256) := by
    rw [us8 (by omega), nI_add]
  rw [lt_v s4]
  obtain ⟨d1, ed1⟩ : ∃ d1, d1 = c + c / 256 := ⟨_, rfl⟩
  rw [← ed1]
  have hd1 : d1 < 2 ^ 31 := by omega
  have s5 : nI d1 + ((nI d1).toUInt32 >>> ((16 : Int32).toUInt32 &&& Int32.toUInt32 31)).toInt32 = nI (d1 + d1 / 65536) := by
    rw [us16 (by omega), nI_add]
  rw [lt_v s5]
  obtain ⟨d2, ed2⟩ : ∃ d2, d2 = d1 + d1 / 65536 := ⟨_, rfl⟩
  rw [← ed2, show (63 : Int32) = nI (2 ^ 6 - 1) from rfl, fa_mask, show (2 : Nat) ^ 6 = 64 from rfl]
  have hp : ∀ m, pc 8 m ≤ 8 := fun m => pc_le 8 m
  have f4 : dg 4 n = pc 8 (n % 256) + 256 * dg 3 (n / 256) := Nat.add_comm _ _
  have f3 : dg 3 (n / 256) = pc 8 (n / 256 % 256) + 256 * dg 2 (n / 256 / 256) := Nat.add_comm _ _
  have f2 : dg 2 (n / 256 / 256) = pc 8 (n / 256 / 256 % 256) + 256 * pc 8 (n / 256 / 256 / 256 % 256) := by
    show 256 * (256 * 0 + pc 8 (n / 256 / 256 / 256 % 256)) + pc 8 (n / 256 / 256 % 256) = _
    rw [Nat.mul_zero, Nat.zero_add, Nat.add_comm]
  rw [dig4 (hp _) (hp _) (hp _) (hp _) (ec.trans f4) f3 f2 ed1 ed2, ← pc32]
theorem bc32 (x : Int32) : fJ6_bitCount_0f7a4 x = some (nI (fb_ct (bt x) 32)) := by
  obtain ⟨n, hn, rfl⟩ := i_of x
  rw [bc32N hn, pc_ct]
  congr 3
  funext i
  exact (bt_nI hn).symm
theorem bt_1 : ∀ i, i < 32 → bt 1 i = decide (i = 0) := by decide +kernel
theorem and1 {x : Int32} {b : Bool} (h : bt x 0 = b) : x &&& 1 = nI (if b then 1 else 0) := by
  apply b_ext
  intro i hi
  rw [b_and, bt_1 i hi, bt_nI (by cases b <;> decide)]
  cases b
  · by_cases e : i = 0
    · subst e; rw [h]; rfl
    · rw [decide_eq_false e, Bool.and_false]; exact (Nat.zero_testBit i).symm
  · by_cases e : i = 0
    · subst e; rw [h]; rfl
    · rw [decide_eq_false e, Bool.and_false]
      show false = Nat.testBit (2 ^ 0) i
      rw [Nat.testBit_two_pow_of_ne (Ne.symm e)]
theorem ub {s i : Nat} (hs : s < 2 ^ 32) (hi : i < 32) : (((nI s).toUInt32 >>> ((nI i).toUInt32 &&& Int32.toUInt32 31)).toInt32) &&& 1 = nI (if s.testBit i then 1 else 0) := by
  refine and1 ?_
  rw [b_ushr i hi, Nat.add_zero, bt_nI hs]
theorem sb {s i : Nat} (hs : s < 2 ^ 32) (hi : i < 32) : (nI s >>> (nI i &&& 31)) &&& 1 = nI (if s.testBit i then 1 else 0) := by
  refine and1 ?_
  rw [b_sshr i hi _ (by omega), if_pos (by omega), Nat.add_zero, bt_nI hs]
theorem shl {s i : Nat} (hi : i < 32) (h : s * 2 ^ i < 2 ^ 32) : nI s <<< (nI i &&& 31) = nI (s * 2 ^ i) := by
  have hp : 0 < 2 ^ i := Nat.two_pow_pos i
  have hs : s ≤ s * 2 ^ i := Nat.le_mul_of_pos_right _ hp
  apply b_ext
  intro j hj
  rw [b_shl i hi _ hj, bt_nI (by omega), bt_nI h, Nat.testBit_mul_two_pow]
theorem b1_0 {b : Bool} : nI (if b then 1 else 0) = 0 ↔ b = false := by cases b <;> decide
theorem b1_1 {b : Bool} : nI (if b then 1 else 0) = 1 ↔ b = true := by cases b <;> decide
