theorem lt_v {α β : Type} {x y : α} {k : α → β} (e : x = y) : lt_ x k = k y := by subst e; rfl
theorem dig8 (c0 c1 c2 c3 c4 c5 c6 c7 c d1 d2 : Nat) (h0 : c0 ≤ 8) (h1 : c1 ≤ 8) (h2 : c2 ≤ 8) (h3 : c3 ≤ 8) (h4 : c4 ≤ 8) (h5 : c5 ≤ 8) (h6 : c6 ≤ 8) (h7 : c7 ≤ 8)
    (hc : c = c0 + 256 * c1 + 65536 * c2 + 16777216 * c3 + 4294967296 * c4 + 1099511627776 * c5 + 281474976710656 * c6 + 72057594037927936 * c7)
    (hd1 : d1 = c + c / 256) (hd2 : d2 = d1 + d1 / 65536) : (d2 + d2 / 4294967296) % 128 = c0 + c1 + c2 + c3 + c4 + c5 + c6 + c7 := by
  have e1 : c / 256 = c1 + 256 * c2 + 65536 * c3 + 16777216 * c4 + 4294967296 * c5 + 1099511627776 * c6 + 281474976710656 * c7 := by omega
  have e2 : d1 = (c0 + c1) + 256 * (c1 + c2) + 65536 * (c2 + c3) + 16777216 * (c3 + c4) + 4294967296 * (c4 + c5) + 1099511627776 * (c5 + c6) + 281474976710656 * (c6 + c7) + 72057594037927936 * c7 := by omega
  have e3 : d1 / 65536 = (c2 + c3) + 256 * (c3 + c4) + 65536 * (c4 + c5) + 16777216 * (c5 + c6) + 4294967296 * (c6 + c7) + 1099511627776 * c7 := by omega
  have e4 : d2 = (c0 + c1 + c2 + c3) + 256 * (c1 + c2 + c3 + c4) + 65536 * (c2 + c3 + c4 + c5) + 16777216 * (c3 + c4 + c5 + c6) + 4294967296 * (c4 + c5 + c6 + c7) + 1099511627776 * (c5 + c6 + c7) + 281474976710656 * (c6 + c7) + 72057594037927936 * c7 := by omega
  have e5 : d2 / 4294967296 = (c4 + c5 + c6 + c7) + 256 * (c5 + c6 + c7) + 65536 * (c6 + c7) + 16777216 * c7 := by omega
  omega
theorem pc64 (n : Nat) : pc 64 n = pc 8 (n % 256) + pc 8 (n / 256 % 256) + pc 8 (n / 256 / 256 % 256) + pc 8 (n / 256 / 256 / 256 % 256) + pc 8 (n / 256 / 256 / 256 / 256 % 256) + pc 8 (n / 256 / 256 / 256 / 256 / 256 % 256) + pc 8 (n / 256 / 256 / 256 / 256 / 256 / 256 % 256) + pc 8 (n / 256 / 256 / 256 / 256 / 256 / 256 / 256 % 256) := by
  have hm : ∀ m, pc 8 (m % 256) = pc 8 m := fun m => pc_mod 8 m
  rw [hm, hm, hm, hm, hm, hm, hm, hm]
  rw [show (64 : Nat) = 8 + (8 + (8 + (8 + (8 + (8 + (8 + 8)))))) from rfl, pc_add, pc_add, pc_add, pc_add, pc_add, pc_add, pc_add]
  rw [show (2 : Nat) ^ 8 = 256 from rfl]
  omega
theorem bitCount_eq {n : Nat} (h : n < 2 ^ 64) : fJ13_bitCount_95d88 (lN n) = some (nI (pc 64 n)) := by
  have hM5 : m5 8 = 6148914691236517205 := by decide
  have hM3 : m3 8 = 3689348814741910323 := by decide
  have hMf : mf 8 = 1085102592571150095 := by decide
  have hsw := swar 8 n (by rw [show (256 : Nat) ^ 8 = 2 ^ 64 from rfl]; exact h)
  unfold fJ13_bitCount_95d88
  have s1 : lN n - (((lN n).toUInt64 >>> ((1 : Int32).toInt64.toUInt64 &&& Int64.toUInt64 63)).toInt64 &&& (6148914691236517205 : Int64)) = lN (sA 8 n) := by
    rw [show (1 : Int32) = nI 1 from rfl, wb_shr h (by omega), show (6148914691236517205 : Int64) = lN 6148914691236517205 from rfl, fb_andL, lN_sub]
    · unfold sA; rw [hM5, show (2 : Nat) ^ 1 = 2 from rfl]
    · have := Nat.and_le_left (n := n / 2 ^ 1) (m := 6148914691236517205)
      rw [show (2 : Nat) ^ 1 = 2 from rfl] at this ⊢
      omega
  rw [lt_v s1]
  have ha : sA 8 n < 2 ^ 64 := Nat.lt_of_le_of_lt (Nat.sub_le _ _) h
  generalize sA 8 n = a at hsw ha
  have s2 : (lN a &&& (3689348814741910323 : Int64)) + (((lN a).toUInt64 >>> ((2 : Int32).toInt64.toUInt64 &&& Int64.toUInt64 63)).toInt64 &&& (3689348814741910323 : Int64)) = lN (sB 8 a) := by
    rw [show (2 : Int32) = nI 2 from rfl, wb_shr ha (by omega), show (3689348814741910323 : Int64) = lN 3689348814741910323 from rfl, fb_andL, fb_andL, lN_add]
    unfold sB; rw [hM3, show (2 : Nat) ^ 2 = 4 from rfl]
  rw [lt_v s2]
  have hb : sB 8 a ≤ 7378697629483820646 := by
    unfold sB
    rw [hM3]
    have h1 := Nat.and_le_right (n := a) (m := 3689348814741910323)
    have h2 := Nat.and_le_right (n := a / 4) (m := 3689348814741910323)
    omega
  generalize sB 8 a = b at hsw hb
  have s3 : (lN b + ((lN b).toUInt64 >>> ((4 : Int32).toInt64.toUInt64 &&& Int64.toUInt64 63)).toInt64) &&& (1085102592571150095 : Int64) = lN (dg 8 n) := by
    rw [show (4 : Int32) = nI 4 from rfl, wb_shr (by omega) (by omega), lN_add, show (1085102592571150095 : Int64) = lN 1085102592571150095 from rfl, fb_andL, ← hsw]
    unfold sC; rw [hMf, show (2 : Nat) ^ 4 = 16 from rfl]
  rw [lt_v s3]
  have hcb : dg 8 n ≤ 1085102592571150095 := by
    rw [← hsw]; unfold sC; rw [hMf]; exact Nat.and_le_right
  obtain ⟨c, ec⟩ : ∃ c, c = dg 8 n := ⟨_, rfl⟩
  rw [← ec] at hcb ⊢
  have s4 : lN c + ((lN c).toUInt64 >>> ((8 : Int32).toInt64.toUInt64 &&& Int64.toUInt64 63)).toInt64 = lN (c + c / 256) := by
    rw [show (8 : Int32) = nI 8 from rfl, wb_shr (by omega) (by omega), lN_add, show (2 : Nat) ^ 8 = 256 from rfl]
  rw [lt_v s4]
  obtain ⟨d1, ed1⟩ : ∃ d1, d1 = c + c / 256 := ⟨_, rfl⟩
  rw [← ed1]
  have hd1 : d1 < 2 ^ 63 := by omega
  have s5 : lN d1 + ((lN d1).toUInt64 >>> ((16 : Int32).toInt64.toUInt64 &&& Int64.toUInt64 63)).toInt64 = lN (d1 + d1 / 65536) := by
    rw [show (16 : Int32) = nI 16 from rfl, wb_shr (by omega) (by omega), lN_add, show (2 : Nat) ^ 16 = 65536 from rfl]
  rw [lt_v s5]
  obtain ⟨d2, ed2⟩ : ∃ d2, d2 = d1 + d1 / 65536 := ⟨_, rfl⟩
  rw [← ed2]
  have s6 : lN d2 + ((lN d2).toUInt64 >>> ((32 : Int32).toInt64.toUInt64 &&& Int64.toUInt64 63)).toInt64 = lN (d2 + d2 / 4294967296) := by
    rw [show (32 : Int32) = nI 32 from rfl, wb_shr (by omega) (by omega), lN_add, show (2 : Nat) ^ 32 = 4294967296 from rfl]
  rw [lt_v s6, lN_i, show (127 : Int32) = nI (2 ^ 7 - 1) from rfl, fa_mask, show (2 : Nat) ^ 7 = 128 from rfl]
  have hp : ∀ m, pc 8 m ≤ 8 := fun m => pc_le 8 m
  have hc : c = pc 8 (n % 256) + 256 * pc 8 (n / 256 % 256) + 65536 * pc 8 (n / 256 / 256 % 256) + 16777216 * pc 8 (n / 256 / 256 / 256 % 256) + 4294967296 * pc 8 (n / 256 / 256 / 256 / 256 % 256) + 1099511627776 * pc 8 (n / 256 / 256 / 256 / 256 / 256 % 256) + 281474976710656 * pc 8 (n / 256 / 256 / 256 / 256 / 256 / 256 % 256) + 72057594037927936 * pc 8 (n / 256 / 256 / 256 / 256 / 256 / 256 / 256 % 256) := by
    rw [ec]
    simp only [dg]
    omega
  rw [dig8 _ _ _ _ _ _ _ _ c d1 d2 (hp _) (hp _) (hp _) (hp _) (hp _) (hp _) (hp _) (hp _) hc ed1 ed2, ← pc64]
