theorem lt_v {α β : Type} {x y : α} {k : α → β} (e : x = y) : lt_ x k = k y := by subst e; rfl
theorem dig_a {c c0 c1 c2 C1 C2 C3 : Nat} (h0 : c0 ≤ 8) (h1 : c1 ≤ 8) (h2 : c2 ≤ 8) (hc : c = c0 + 256 * C1) (hC1 : C1 = c1 + 256 * C2) (hC2 : C2 = c2 + 256 * C3) : c + c / 256 = (c0 + c1) + 256 * (c1 + c2) + 65536 * (C2 + C3) := by
  have e : c / 256 = C1 := by omega
  rw [e]
  omega
theorem dig_b {e0 e1 E : Nat} (h0 : e0 ≤ 16) (h1 : e1 ≤ 16) : (e0 + 256 * e1 + 65536 * E) / 65536 = E := by omega
theorem dig_c {a0 a1 a2 a3 G : Nat} (h0 : a0 ≤ 32) (h1 : a1 ≤ 32) (h2 : a2 ≤ 32) (h3 : a3 ≤ 32) : (a0 + 256 * a1 + 65536 * a2 + 16777216 * a3 + 4294967296 * G) / 4294967296 = G := by omega
theorem dig8 {c0 c1 c2 c3 c4 c5 c6 c7 C1 C2 C3 C4 C5 C6 c d1 d2 : Nat} (h0 : c0 ≤ 8) (h1 : c1 ≤ 8) (h2 : c2 ≤ 8) (h3 : c3 ≤ 8) (h4 : c4 ≤ 8) (h5 : c5 ≤ 8) (h6 : c6 ≤ 8) (h7 : c7 ≤ 8)
    (hc : c = c0 + 256 * C1) (hC1 : C1 = c1 + 256 * C2) (hC2 : C2 = c2 + 256 * C3) (hC3 : C3 = c3 + 256 * C4) (hC4 : C4 = c4 + 256 * C5) (hC5 : C5 = c5 + 256 * C6) (hC6 : C6 = c6 + 256 * c7)
    (hd1 : d1 = c + c / 256) (hd2 : d2 = d1 + d1 / 65536) : (d2 + d2 / 4294967296) % 128 = c0 + c1 + c2 + c3 + c4 + c5 + c6 + c7 := by
  rw [dig_a h0 h1 h2 hc hC1 hC2] at hd1
  have e2 : d1 / 65536 = C2 + C3 := by rw [hd1]; exact dig_b (by omega) (by omega)
  rw [e2] at hd2
  have e3 : d2 = (c0 + c1 + c2 + c3) + 256 * (c1 + c2 + c3 + c4) + 65536 * (c2 + c3 + c4 + c5) + 16777216 * (c3 + c4 + c5 + c6) + 4294967296 * (C4 + C5 + C6 + c7) := by
    clear e2
    subst hC2
    subst hC3
    omega
  have e4 : d2 / 4294967296 = C4 + C5 + C6 + c7 := by rw [e3]; exact dig_c (by omega) (by omega) (by omega) (by omega)
  rw [e4]
  clear hd1 hd2 e2 e4
  omega
theorem pc64 (n : Nat) : pc 64 n = pc 8 (n % 256) + pc 8 (n / 256 % 256) + pc 8 (n / 256 / 256 % 256) + pc 8 (n / 256 / 256 / 256 % 256) + pc 8 (n / 256 / 256 / 256 / 256 % 256) + pc 8 (n / 256 / 256 / 256 / 256 / 256 % 256) + pc 8 (n / 256 / 256 / 256 / 256 / 256 / 256 % 256) + pc 8 (n / 256 / 256 / 256 / 256 / 256 / 256 / 256 % 256) := by
  have hm : ∀ m, pc 8 (m % 256) = pc 8 m := fun m => pc_mod 8 m
  rw [hm, hm, hm, hm, hm, hm, hm, hm]
  rw [show (64 : Nat) = 8 + (8 + (8 + (8 + (8 + (8 + (8 + 8)))))) from rfl, pc_add, pc_add, pc_add, pc_add, pc_add, pc_add, pc_add]
  rw [show (2 : Nat) ^ 8 = 256 from rfl]
  omega
theorem bitCount_eq {n : Nat} (h : n < 2 ^ 64) : fJ13_bitCount_95d88 (lN n) = some (nI (pc 64 n)) := by
  have hM5 : m5 8 = 6148914691236517205 := by decide
  have hM3 : m3 8 = 3689348814741910323 := by decide
  have hMf : mf 8 = 1085102592571150095 := by decide
  have hsw := swar 8 n (by rw [show (256 : Nat) ^ 8 = 2 ^ 64 from rfl]; exact h)
  unfold fJ13_bitCount_95d88
  have s1 : lN n - (((lN n).toUInt64 >>> ((1 : Int32).toInt64.toUInt64 &&& Int64.toUInt64 63)).toInt64 &&& (6148914691236517205 : Int64)) = lN (sA 8 n) := by
    rw [show (1 : Int32) = nI 1 from rfl, wb_shr h (by omega), show (6148914691236517205 : Int64) = lN 6148914691236517205 from rfl, fb_andL, lN_sub]
    · unfold sA; rw [hM5, show (2 : Nat) ^ 1 = 2 from rfl]
    · have := Nat.and_le_left (n := n / 2 ^ 1) (m := 6148914691236517205)
      rw [show (2 : Nat) ^ 1 = 2 from rfl] at this ⊢
      omega
  rw [lt_v s1]
  have ha : sA 8 n < 2 ^ 64 := Nat.lt_of_le_of_lt (Nat.sub_le _ _) h
  generalize sA 8 n = a at hsw ha
  have s2 : (lN a &&& (3689348814741910323 : Int64)) + (((lN a).toUInt64 >>> ((2 : Int32).toInt64.toUInt64 &&& Int64.toUInt64 63)).toInt64 &&& (3689348814741910323 : Int64)) = lN (sB 8 a) := by
    rw [show (2 : Int32) = nI 2 from rfl, wb_shr ha (by omega), show (3689348814741910323 : Int64) = lN 3689348814741910323 from rfl, fb_andL, fb_andL, lN_add]
    unfold sB; rw [hM3, show (2 : Nat) ^ 2 = 4 from rfl]
  rw [lt_v s2]
  have hb : sB 8 a ≤ 7378697629483820646 := by
    unfold sB
    rw [hM3]
    have h1 := Nat.and_le_right (n := a) (m := 3689348814741910323)
    have h2 := Nat.and_le_right (n := a / 4) (m := 3689348814741910323)
    omega
  generalize sB 8 a = b at hsw hb
  have s3 : (lN b + ((lN b).toUInt64 >>> ((4 : Int32).toInt64.toUInt64 &&& Int64.toUInt64 63)).toInt64) &&& (1085102592571150095 : Int64) = lN (dg 8 n) := by
    rw [show (4 : Int32) = nI 4 from rfl, wb_shr (by omega) (by omega), lN_add, show (1085102592571150095 : Int64) = lN 1085102592571150095 from rfl, fb_andL, ← hsw]
    unfold sC; rw [hMf, show (2 : Nat) ^ 4 = 16 from rfl]
  rw [lt_v s3]
  have hcb : dg 8 n ≤ 1085102592571150095 := by
    rw [← hsw]; unfold sC; rw [hMf]; exact Nat.and_le_right
  obtain ⟨c, ec⟩ : ∃ c, c = dg 8 n := ⟨_, rfl⟩
  rw [← ec] at hcb ⊢
  have s4 : lN c + ((lN c).toUInt64 >>> ((8 : Int32).toInt64.toUInt64 &&& Int64.toUInt64 63)).toInt64 = lN (c + c / 256) := by
    rw [show (8 : Int32) = nI 8 from rfl, wb_shr (by omega) (by omega), lN_add, show (2 : Nat) ^ 8 = 256 from rfl]
  rw [lt_v s4]
  obtain ⟨d1, ed1⟩ : ∃ d1, d1 = c + c / 256 := ⟨_, rfl⟩
  rw [← ed1]
  have hd1 : d1 < 2 ^ 63 := by omega
  have s5 : lN d1 + ((lN d1).toUInt64 >>> ((16 : Int32).toInt64.toUInt64 &&& Int64.toUInt64 63)).toInt64 = lN (d1 + d1 / 65536) := by
    rw [show (16 : Int32) = nI 16 from rfl, wb_shr (by omega) (by omega), lN_add, show (2 : Nat) ^ 16 = 65536 from rfl]
  rw [lt_v s5]
  obtain ⟨d2, ed2⟩ : ∃ d2, d2 = d1 + d1 / 65536 := ⟨_, rfl⟩
  rw [← ed2]
  have s6 : lN d2 + ((lN d2).toUInt64 >>> ((32 : Int32).toInt64.toUInt64 &&& Int64.toUInt64 63)).toInt64 = lN (d2 + d2 / 4294967296) := by
    rw [show (32 : Int32) = nI 32 from rfl, wb_shr (by omega) (by omega), lN_add, show (2 : Nat) ^ 32 = 4294967296 from rfl]
  rw [lt_v s6, lN_i, show (127 : Int32) = nI (2 ^ 7 - 1) from rfl, fa_mask, show (2 : Nat) ^ 7 = 128 from rfl]
  have hp : ∀ m, pc 8 m ≤ 8 := fun m => pc_le 8 m
  have f8 : dg 8 n = pc 8 (n % 256) + 256 * dg 7 (n / 256) := Nat.add_comm _ _
  have f7 : dg 7 (n / 256) = pc 8 (n / 256 % 256) + 256 * dg 6 (n / 256 / 256) := Nat.add_comm _ _
  have f6 : dg 6 (n / 256 / 256) = pc 8 (n / 256 / 256 % 256) + 256 * dg 5 (n / 256 / 256 / 256) := Nat.add_comm _ _
  have f5 : dg 5 (n / 256 / 256 / 256) = pc 8 (n / 256 / 256 / 256 % 256) + 256 * dg 4 (n / 256 / 256 / 256 / 256) := Nat.add_comm _ _
  have f4 : dg 4 (n / 256 / 256 / 256 / 256) = pc 8 (n / 256 / 256 / 256 / 256 % 256) + 256 * dg 3 (n / 256 / 256 / 256 / 256 / 256) := Nat.add_comm _ _
  have f3 : dg 3 (n / 256 / 256 / 256 / 256 / 256) = pc 8 (n / 256 / 256 / 256 / 256 / 256 % 256) + 256 * dg 2 (n / 256 / 256 / 256 / 256 / 256 / 256) := Nat.add_comm _ _
  have f2 : dg 2 (n / 256 / 256 / 256 / 256 / 256 / 256) = pc 8 (n / 256 / 256 / 256 / 256 / 256 / 256 % 256) + 256 * pc 8 (n / 256 / 256 / 256 / 256 / 256 / 256 / 256 % 256) := by
    show 256 * (256 * 0 + pc 8 (n / 256 / 256 / 256 / 256 / 256 / 256 / 256 % 256)) + pc 8 (n / 256 / 256 / 256 / 256 / 256 / 256 % 256) = _
    rw [Nat.mul_zero, Nat.zero_add, Nat.add_comm]
  rw [dig8 (hp _) (hp _) (hp _) (hp _) (hp _) (hp _) (hp _) (hp _) (ec.trans f8) f7 f6 f5 f4 f3 f2 ed1 ed2, ← pc64]
