abbrev rmJ6_numberOfTrailingZeros_0f7a4 : Room := { frames := 0, cells := 0, slots := 0, locals := 0 }
noncomputable def bJ6_numberOfTrailingZeros_0f7a4_74 (x0 : Int32) (x1 : Int32) : Option (Int32) := some (x1 + ((x0.toUInt32 >>> ((1 : Int32).toUInt32 &&& Int32.toUInt32 31)).toInt32))
noncomputable def bJ6_numberOfTrailingZeros_0f7a4_62 (x0 : Int32) (x1 : Int32) : Option (Int32) := br (x0 ≤ (4 : Int32)) (bJ6_numberOfTrailingZeros_0f7a4_74 x0 x1) (lt_ (x1 + (2 : Int32)) (fun y2 => lt_ ((x0.toUInt32 >>> ((2 : Int32).toUInt32 &&& Int32.toUInt32 31)).toInt32) (fun y3 => bJ6_numberOfTrailingZeros_0f7a4_74 y3 y2)))
noncomputable def bJ6_numberOfTrailingZeros_0f7a4_49 (x0 : Int32) (x1 : Int32) : Option (Int32) := br (x0 ≤ (16 : Int32)) (bJ6_numberOfTrailingZeros_0f7a4_62 x0 x1) (lt_ (x1 + (4 : Int32)) (fun y5 => lt_ ((x0.toUInt32 >>> ((4 : Int32).toUInt32 &&& Int32.toUInt32 31)).toInt32) (fun y6 => bJ6_numberOfTrailingZeros_0f7a4_62 y6 y5)))
noncomputable def bJ6_numberOfTrailingZeros_0f7a4_34 (x0 : Int32) (x1 : Int32) : Option (Int32) := br (x0 ≤ (256 : Int32)) (bJ6_numberOfTrailingZeros_0f7a4_49 x0 x1) (lt_ (x1 + (8 : Int32)) (fun y8 => lt_ ((x0.toUInt32 >>> ((8 : Int32).toUInt32 &&& Int32.toUInt32 31)).toInt32) (fun y9 => bJ6_numberOfTrailingZeros_0f7a4_49 y9 y8)))
noncomputable def fJ6_numberOfTrailingZeros_0f7a4 (q0 : Int32) : Option (Int32) := lt_ ((q0 ^^^ (-1 : Int32)) &&& (q0 - (1 : Int32))) (fun y10 => br (0 < y10) (br (y10 ≤ (65536 : Int32)) (bJ6_numberOfTrailingZeros_0f7a4_34 y10 (1 : Int32)) (lt_ ((1 : Int32) + (16 : Int32)) (fun y13 => lt_ ((y10.toUInt32 >>> ((16 : Int32).toUInt32 &&& Int32.toUInt32 31)).toInt32) (fun y14 => bJ6_numberOfTrailingZeros_0f7a4_34 y14 y13)))) (some (y10 &&& (32 : Int32))))
set_option maxHeartbeats 4000000 in
set_option maxRecDepth 100000 in
theorem cJ6_numberOfTrailingZeros_0f7a4_ct (l : Launch) (D : va_G) (cI cL cC cZ : ClassId) (q0 : Int32) (r0 : Int32) (hf : fJ6_numberOfTrailingZeros_0f7a4 q0 = some r0) : CtI l yJ6_numberOfTrailingZeros_0f7a4 wsJ6_numberOfTrailingZeros_0f7a4 rmJ6_numberOfTrailingZeros_0f7a4 D (tyz cI cL cC cZ) [.int q0] [] [] r0 := by
  refine CtI.make (cc := cJ6_numberOfTrailingZeros_0f7a4) (maxL := 2) (ty := .int) (by decide) rfl (Nat.le_of_ble_eq_true rfl) ?_
  intro p e s m below meth c A ls C0 hN hA hP hD hl
  obtain ⟨hx, hb, hr, hml, hown, hts, hlk⟩ := id C0
  have hown : s.vm.findClass RJ6 = some m.cls := hown
  have hS : va_S A s.heap s.heap [] := va_S.rf
  have hP : va_P D vwCl [] s.heap := hP
  have hD : va_D A [] := hD
  have hl : lv_has ls 2 [(0, .int q0)] := hl
  have z1 := hts (.constant RJ6 264 (65536)) (by decide +kernel)
  have w74 : ∀ (x0 : Int32) (x1 : Int32) (H : Heap) (locs : List Loc) (ls : Array Slot), bJ6_numberOfTrailingZeros_0f7a4_74 x0 x1 = some r0 → va_P D vwCl [] H → va_D A [] → va_S A s.heap H locs → lv_has ls 2 [(0, .int x0), (1, .int x1)] → W p l e rmJ6_numberOfTrailingZeros_0f7a4 s m ([.int q0] : List Value).toArray below meth c H locs 0 0 (MQ below (cQi D r0 A []) ([.int q0] : List Value).toArray s 0 0 A) (F0 m 74 ls []) := by
    intro x0 x1 H locs ls hf hP hD hS hl
    unfold bJ6_numberOfTrailingZeros_0f7a4_74 at hf
    refine lv_iload_n hx hb dJ6_numberOfTrailingZeros_0f7a4_74 rfl (lv_at hl 1 rfl) ?_
    refine lv_iload_n hx hb dJ6_numberOfTrailingZeros_0f7a4_75 rfl (lv_at hl 0 rfl) ?_
    refine lv_iconst (v := 1) hx hb dJ6_numberOfTrailingZeros_0f7a4_76 (by decide) ?_
    refine lv_iushr hx hb dJ6_numberOfTrailingZeros_0f7a4_77 rfl ?_
    refine lv_iadd hx hb dJ6_numberOfTrailingZeros_0f7a4_78 ?_
    have hE : x1 + ((x0.toUInt32 >>> ((1 : Int32).toUInt32 &&& Int32.toUInt32 31)).toInt32) = r0 := Option.some.inj hf
    subst hE
    exact rtI hx hb hr hlk hP hD hS dJ6_numberOfTrailingZeros_0f7a4_79
  have w62 : ∀ (x0 : Int32) (x1 : Int32) (H : Heap) (locs : List Loc) (ls : Array Slot), bJ6_numberOfTrailingZeros_0f7a4_62 x0 x1 = some r0 → va_P D vwCl [] H → va_D A [] → va_S A s.heap H locs → lv_has ls 2 [(0, .int x0), (1, .int x1)] → W p l e rmJ6_numberOfTrailingZeros_0f7a4 s m ([.int q0] : List Value).toArray below meth c H locs 0 0 (MQ below (cQi D r0 A []) ([.int q0] : List Value).toArray s 0 0 A) (F0 m 62 ls []) := by
    intro x0 x1 H locs ls hf hP hD hS hl
    unfold bJ6_numberOfTrailingZeros_0f7a4_62 at hf
    refine lv_iload_n hx hb dJ6_numberOfTrailingZeros_0f7a4_62 rfl (lv_at hl 0 rfl) ?_
    refine lv_iconst (v := 4) hx hb dJ6_numberOfTrailingZeros_0f7a4_63 (by decide) ?_
    refine lv_icmp_le (tgt := 74) hx hb dJ6_numberOfTrailingZeros_0f7a4_64 (by decide) (fun c1 => ?_) (fun c1 => ?_)
    · have hf := br_pos c1 hf
      exact w74 x0 x1 H locs ls hf hP hD hS (lv_sub hl [0, 1] rfl)
    · have hf := br_neg c1 hf
      obtain ⟨y2, ey2⟩ : ∃ z : Int32, z = x1 + (2 : Int32) := ⟨_, rfl⟩
      have hf := lt_some hf y2 ey2
      refine lv_iinc (v := y2) (lv' := [(1, .int y2), (0, .int x0)]) hx hb dJ6_numberOfTrailingZeros_0f7a4_67 hl (k := 1) rfl (by rw [ey2]; rfl) (by decide) rfl (fun ls hl => ?_)
      refine lv_iload_n hx hb dJ6_numberOfTrailingZeros_0f7a4_70 rfl (lv_at hl 1 rfl) ?_
      refine lv_iconst (v := 2) hx hb dJ6_numberOfTrailingZeros_0f7a4_71 (by decide) ?_
      refine lv_iushr hx hb dJ6_numberOfTrailingZeros_0f7a4_72 rfl ?_
      refine lv_topi (fun y3 ey3 => ?_)
      have hf := lt_some hf y3 ey3
      refine lv_istore_n (lv' := [(0, .int y3), (1, .int y2)]) hx hb dJ6_numberOfTrailingZeros_0f7a4_73 rfl hl (by decide) rfl (fun ls hl => ?_)
      exact w74 y3 y2 H locs ls hf hP hD hS (lv_sub hl [0, 1] rfl)
  have w49 : ∀ (x0 : Int32) (x1 : Int32) (H : Heap) (locs : List Loc) (ls : Array Slot), bJ6_numberOfTrailingZeros_0f7a4_49 x0 x1 = some r0 → va_P D vwCl [] H → va_D A [] → va_S A s.heap H locs → lv_has ls 2 [(0, .int x0), (1, .int x1)] → W p l e rmJ6_numberOfTrailingZeros_0f7a4 s m ([.int q0] : List Value).toArray below meth c H locs 0 0 (MQ below (cQi D r0 A []) ([.int q0] : List Value).toArray s 0 0 A) (F0 m 49 ls []) := by
    intro x0 x1 H locs ls hf hP hD hS hl
    unfold bJ6_numberOfTrailingZeros_0f7a4_49 at hf
    refine lv_iload_n hx hb dJ6_numberOfTrailingZeros_0f7a4_49 rfl (lv_at hl 0 rfl) ?_
    refine lv_bipush (v := 16) hx hb dJ6_numberOfTrailingZeros_0f7a4_50 (by decide) ?_
    refine lv_icmp_le (tgt := 62) hx hb dJ6_numberOfTrailingZeros_0f7a4_52 (by decide) (fun c4 => ?_) (fun c4 => ?_)
    · have hf := br_pos c4 hf
      exact w62 x0 x1 H locs ls hf hP hD hS (lv_sub hl [0, 1] rfl)
    · have hf := br_neg c4 hf
      obtain ⟨y5, ey5⟩ : ∃ z : Int32, z = x1 + (4 : Int32) := ⟨_, rfl⟩
      have hf := lt_some hf y5 ey5
      refine lv_iinc (v := y5) (lv' := [(1, .int y5), (0, .int x0)]) hx hb dJ6_numberOfTrailingZeros_0f7a4_55 hl (k := 1) rfl (by rw [ey5]; rfl) (by decide) rfl (fun ls hl => ?_)
      refine lv_iload_n hx hb dJ6_numberOfTrailingZeros_0f7a4_58 rfl (lv_at hl 1 rfl) ?_
      refine lv_iconst (v := 4) hx hb dJ6_numberOfTrailingZeros_0f7a4_59 (by decide) ?_
      refine lv_iushr hx hb dJ6_numberOfTrailingZeros_0f7a4_60 rfl ?_
      refine lv_topi (fun y6 ey6 => ?_)
      have hf := lt_some hf y6 ey6
      refine lv_istore_n (lv' := [(0, .int y6), (1, .int y5)]) hx hb dJ6_numberOfTrailingZeros_0f7a4_61 rfl hl (by decide) rfl (fun ls hl => ?_)
      exact w62 y6 y5 H locs ls hf hP hD hS (lv_sub hl [0, 1] rfl)
  have w34 : ∀ (x0 : Int32) (x1 : Int32) (H : Heap) (locs : List Loc) (ls : Array Slot), bJ6_numberOfTrailingZeros_0f7a4_34 x0 x1 = some r0 → va_P D vwCl [] H → va_D A [] → va_S A s.heap H locs → lv_has ls 2 [(0, .int x0), (1, .int x1)] → W p l e rmJ6_numberOfTrailingZeros_0f7a4 s m ([.int q0] : List Value).toArray below meth c H locs 0 0 (MQ below (cQi D r0 A []) ([.int q0] : List Value).toArray s 0 0 A) (F0 m 34 ls []) := by
    intro x0 x1 H locs ls hf hP hD hS hl
    unfold bJ6_numberOfTrailingZeros_0f7a4_34 at hf
    refine lv_iload_n hx hb dJ6_numberOfTrailingZeros_0f7a4_34 rfl (lv_at hl 0 rfl) ?_
    refine lv_sipush (v := 256) hx hb dJ6_numberOfTrailingZeros_0f7a4_35 (by decide) ?_
    refine lv_icmp_le (tgt := 49) hx hb dJ6_numberOfTrailingZeros_0f7a4_38 (by decide) (fun c7 => ?_) (fun c7 => ?_)
    · have hf := br_pos c7 hf
      exact w49 x0 x1 H locs ls hf hP hD hS (lv_sub hl [0, 1] rfl)
    · have hf := br_neg c7 hf
      obtain ⟨y8, ey8⟩ : ∃ z : Int32, z = x1 + (8 : Int32) := ⟨_, rfl⟩
      have hf := lt_some hf y8 ey8
      refine lv_iinc (v := y8) (lv' := [(1, .int y8), (0, .int x0)]) hx hb dJ6_numberOfTrailingZeros_0f7a4_41 hl (k := 1) rfl (by rw [ey8]; rfl) (by decide) rfl (fun ls hl => ?_)
      refine lv_iload_n hx hb dJ6_numberOfTrailingZeros_0f7a4_44 rfl (lv_at hl 1 rfl) ?_
      refine lv_bipush (v := 8) hx hb dJ6_numberOfTrailingZeros_0f7a4_45 (by decide) ?_
      refine lv_iushr hx hb dJ6_numberOfTrailingZeros_0f7a4_47 rfl ?_
      refine lv_topi (fun y9 ey9 => ?_)
      have hf := lt_some hf y9 ey9
      refine lv_istore_n (lv' := [(0, .int y9), (1, .int y8)]) hx hb dJ6_numberOfTrailingZeros_0f7a4_48 rfl hl (by decide) rfl (fun ls hl => ?_)
      exact w49 y9 y8 H locs ls hf hP hD hS (lv_sub hl [0, 1] rfl)
  unfold fJ6_numberOfTrailingZeros_0f7a4 at hf
  obtain ⟨H, eH⟩ : ∃ z, z = s.heap := ⟨_, rfl⟩
  obtain ⟨locs, eL⟩ : ∃ z : List Loc, z = [] := ⟨_, rfl⟩
  have hP : va_P D vwCl [] H := by rw [eH]; exact hP
  have hS : va_S A s.heap H locs := by rw [eH, eL]; exact hS
  suffices hG : W p l e rmJ6_numberOfTrailingZeros_0f7a4 s m ([.int q0] : List Value).toArray below meth c H locs 0 0 (MQ below (cQi D r0 A []) ([.int q0] : List Value).toArray s 0 0 A) (F0 m 0 ls []) by rw [eH, eL] at hG; exact hG
  refine lv_iload_n hx hb dJ6_numberOfTrailingZeros_0f7a4_0 rfl (lv_at hl 0 rfl) ?_
  refine lv_iconst (v := -1) hx hb dJ6_numberOfTrailingZeros_0f7a4_1 (by decide) ?_
  refine lv_ixor hx hb dJ6_numberOfTrailingZeros_0f7a4_2 ?_
  refine lv_iload_n hx hb dJ6_numberOfTrailingZeros_0f7a4_3 rfl (lv_at hl 0 rfl) ?_
  refine lv_iconst (v := 1) hx hb dJ6_numberOfTrailingZeros_0f7a4_4 (by decide) ?_
  refine lv_isub hx hb dJ6_numberOfTrailingZeros_0f7a4_5 ?_
  refine lv_iand hx hb dJ6_numberOfTrailingZeros_0f7a4_6 ?_
  refine lv_topi (fun y10 ey10 => ?_)
  have hf := lt_some hf y10 ey10
  refine lv_istore_n (lv' := [(0, .int y10)]) hx hb dJ6_numberOfTrailingZeros_0f7a4_7 rfl hl (by decide) rfl (fun ls hl => ?_)
  refine lv_iload_n hx hb dJ6_numberOfTrailingZeros_0f7a4_8 rfl (lv_at hl 0 rfl) ?_
  refine lv_if_gt (tgt := 17) hx hb dJ6_numberOfTrailingZeros_0f7a4_9 (by decide) (fun c11 => ?_) (fun c11 => ?_)
  · have hf := br_pos c11 hf
    refine lv_iconst (v := 1) hx hb dJ6_numberOfTrailingZeros_0f7a4_17 (by decide) ?_
    refine lv_istore_n (lv' := [(1, .int (1 : Int32)), (0, .int y10)]) hx hb dJ6_numberOfTrailingZeros_0f7a4_18 rfl hl (by decide) rfl (fun ls hl => ?_)
    refine lv_iload_n hx hb dJ6_numberOfTrailingZeros_0f7a4_19 rfl (lv_at hl 1 rfl) ?_
    refine lv_ldcw (v := 65536) hx hb hown z1 dJ6_numberOfTrailingZeros_0f7a4_20 ?_
    refine lv_icmp_le (tgt := 34) hx hb dJ6_numberOfTrailingZeros_0f7a4_23 (by decide) (fun c12 => ?_) (fun c12 => ?_)
    · have hf := br_pos c12 hf
      exact w34 y10 (1 : Int32) H locs ls hf hP hD hS (lv_sub hl [1, 0] rfl)
    · have hf := br_neg c12 hf
      obtain ⟨y13, ey13⟩ : ∃ z : Int32, z = (1 : Int32) + (16 : Int32) := ⟨_, rfl⟩
      have hf := lt_some hf y13 ey13
      refine lv_iinc (v := y13) (lv' := [(1, .int y13), (0, .int y10)]) hx hb dJ6_numberOfTrailingZeros_0f7a4_26 hl (k := 0) rfl (by rw [ey13]; rfl) (by decide) rfl (fun ls hl => ?_)
      refine lv_iload_n hx hb dJ6_numberOfTrailingZeros_0f7a4_29 rfl (lv_at hl 1 rfl) ?_
      refine lv_bipush (v := 16) hx hb dJ6_numberOfTrailingZeros_0f7a4_30 (by decide) ?_
      refine lv_iushr hx hb dJ6_numberOfTrailingZeros_0f7a4_32 rfl ?_
      refine lv_topi (fun y14 ey14 => ?_)
      have hf := lt_some hf y14 ey14
      refine lv_istore_n (lv' := [(0, .int y14), (1, .int y13)]) hx hb dJ6_numberOfTrailingZeros_0f7a4_33 rfl hl (by decide) rfl (fun ls hl => ?_)
      exact w34 y14 y13 H locs ls hf hP hD hS (lv_sub hl [0, 1] rfl)
  · have hf := br_neg c11 hf
    refine lv_iload_n hx hb dJ6_numberOfTrailingZeros_0f7a4_12 rfl (lv_at hl 0 rfl) ?_
    refine lv_bipush (v := 32) hx hb dJ6_numberOfTrailingZeros_0f7a4_13 (by decide) ?_
    refine lv_iand hx hb dJ6_numberOfTrailingZeros_0f7a4_15 ?_
    have hE : y10 &&& (32 : Int32) = r0 := Option.some.inj hf
    subst hE
    exact rtI hx hb hr hlk hP hD hS dJ6_numberOfTrailingZeros_0f7a4_16
abbrev rmJ13_numberOfTrailingZeros_95d88 : Room := { frames := 1, cells := 0, slots := 0, locals := 21 }
noncomputable def fJ13_numberOfTrailingZeros_95d88 (q0 : Int64) : Option (Int32) := br (q0.toInt32 = 0) (bd (fJ6_numberOfTrailingZeros_0f7a4 (((q0.toUInt64 >>> ((32 : Int32).toInt64.toUInt64 &&& Int64.toUInt64 63)).toInt64).toInt32)) (fun u3 => some ((32 : Int32) + u3))) (bd (fJ6_numberOfTrailingZeros_0f7a4 q0.toInt32) (fun u2 => some (u2)))
set_option maxHeartbeats 4000000 in
set_option maxRecDepth 100000 in
theorem cJ13_numberOfTrailingZeros_95d88_ct (l : Launch) (D : va_G) (cI cL cC cZ : ClassId) (q0 : Int64) (r0 : Int32) (hf : fJ13_numberOfTrailingZeros_95d88 q0 = some r0) : CtI l yJ13_numberOfTrailingZeros_95d88 wsJ13_numberOfTrailingZeros_95d88 rmJ13_numberOfTrailingZeros_95d88 D (tyz cI cL cC cZ) [.long q0] [] [] r0 := by
  refine CtI.make (cc := cJ13_numberOfTrailingZeros_95d88) (maxL := 3) (ty := .int) (by decide) rfl (Nat.le_of_ble_eq_true rfl) ?_
  intro p e s m below meth c A ls C0 hN hA hP hD hl
  obtain ⟨hx, hb, hr, hml, hown, hts, hlk⟩ := id C0
  have hown : s.vm.findClass RJ13 = some m.cls := hown
  have hS : va_S A s.heap s.heap [] := va_S.rf
  have hP : va_P D vwCl [] s.heap := hP
  have hD : va_D A [] := hD
  have hl : lv_has ls 3 [(0, .long q0)] := hl
  have z1 := va_cwS (R := rmJ13_numberOfTrailingZeros_95d88) (rm := rmJ6_numberOfTrailingZeros_0f7a4) (mc := 0) (ms := 0) 1 hts gJ13_numberOfTrailingZeros_95d88_J6_numberOfTrailingZeros_0f7a4 rfl rfl rfl (by decide +kernel) ⟨Nat.le_of_ble_eq_true rfl, Nat.le_of_ble_eq_true rfl⟩
  unfold fJ13_numberOfTrailingZeros_95d88 at hf
  obtain ⟨H, eH⟩ : ∃ z, z = s.heap := ⟨_, rfl⟩
  obtain ⟨locs, eL⟩ : ∃ z : List Loc, z = [] := ⟨_, rfl⟩
  have hP : va_P D vwCl [] H := by rw [eH]; exact hP
  have hS : va_S A s.heap H locs := by rw [eH, eL]; exact hS
  suffices hG : W p l e rmJ13_numberOfTrailingZeros_95d88 s m ([.long q0] : List Value).toArray below meth c H locs 0 0 (MQ below (cQi D r0 A []) ([.long q0] : List Value).toArray s 0 0 A) (F0 m 0 ls []) by rw [eH, eL] at hG; exact hG
  refine lv_lload_n hx hb dJ13_numberOfTrailingZeros_95d88_0 rfl (lv_at hl 0 rfl) ?_
  refine lv_l2i hx hb dJ13_numberOfTrailingZeros_95d88_1 rfl ?_
  refine lv_istore_n (lv' := [(2, .int q0.toInt32), (0, .long q0)]) hx hb dJ13_numberOfTrailingZeros_95d88_2 rfl hl (by decide) rfl (fun ls hl => ?_)
  refine lv_iload_n hx hb dJ13_numberOfTrailingZeros_95d88_3 rfl (lv_at hl 0 rfl) ?_
  refine lv_if_ne (tgt := 21) hx hb dJ13_numberOfTrailingZeros_95d88_4 (by decide) (fun c1 => ?_) (fun c1 => ?_)
  · have hf := br_neg c1 hf
    refine lv_iload_n hx hb dJ13_numberOfTrailingZeros_95d88_21 rfl (lv_at hl 0 rfl) ?_
    obtain ⟨u2, hu2, hf⟩ := bd_some hf
    refine caSI (rest := []) (As := [.int q0.toInt32]) (wr := []) (wo := []) ⟨hx, hb, hml, hown, hts⟩ hN hP hD hS hA (cJ6_numberOfTrailingZeros_0f7a4_ct l D cI cL cC cZ q0.toInt32 u2 hu2) z1 [] [] [] rfl (by decide) rfl (by decide) (by decide) rfl (by decide) rfl hl.1 rfl (Nat.le_of_ble_eq_true rfl) dJ13_numberOfTrailingZeros_95d88_22 ⟨Nat.zero_le _, Nat.zero_le _⟩ (fun H locs hP hD hS => ?_)
    have hE : u2 = r0 := Option.some.inj hf
    subst hE
    exact rtI hx hb hr hlk hP hD hS dJ13_numberOfTrailingZeros_95d88_25
  · have hf := br_pos c1 hf
    refine lv_bipush (v := 32) hx hb dJ13_numberOfTrailingZeros_95d88_7 (by decide) ?_
    refine lv_lload_n hx hb dJ13_numberOfTrailingZeros_95d88_9 rfl (lv_at hl 1 rfl) ?_
    refine lv_bipush (v := 32) hx hb dJ13_numberOfTrailingZeros_95d88_10 (by decide) ?_
    refine lv_lushr hx hb dJ13_numberOfTrailingZeros_95d88_12 rfl ?_
    refine lv_l2i hx hb dJ13_numberOfTrailingZeros_95d88_13 rfl ?_
    obtain ⟨u3, hu3, hf⟩ := bd_some hf
    refine caSI (rest := [.int (32 : Int32)]) (As := [.int (((q0.toUInt64 >>> ((32 : Int32).toInt64.toUInt64 &&& Int64.toUInt64 63)).toInt64).toInt32)]) (wr := []) (wo := []) ⟨hx, hb, hml, hown, hts⟩ hN hP hD hS hA (cJ6_numberOfTrailingZeros_0f7a4_ct l D cI cL cC cZ (((q0.toUInt64 >>> ((32 : Int32).toInt64.toUInt64 &&& Int64.toUInt64 63)).toInt64).toInt32) u3 hu3) z1 [] [] [] rfl (by decide) rfl (by decide) (by decide) rfl (by decide) rfl hl.1 rfl (Nat.le_of_ble_eq_true rfl) dJ13_numberOfTrailingZeros_95d88_14 ⟨Nat.zero_le _, Nat.zero_le _⟩ (fun H locs hP hD hS => ?_)
    refine lv_iadd hx hb dJ13_numberOfTrailingZeros_95d88_17 ?_
    refine lv_goto (tgt := 25) hx hb dJ13_numberOfTrailingZeros_95d88_18 (by decide) ?_
    have hE : (32 : Int32) + u3 = r0 := Option.some.inj hf
    subst hE
    exact rtI hx hb hr hlk hP hD hS dJ13_numberOfTrailingZeros_95d88_25
abbrev rmJ6_numberOfLeadingZeros_0f7a4 : Room := { frames := 0, cells := 0, slots := 0, locals := 0 }
noncomputable def bJ6_numberOfLeadingZeros_0f7a4_73 (x0 : Int32) (x1 : Int32) : Option (Int32) := some (x1 - ((x0.toUInt32 >>> ((1 : Int32).toUInt32 &&& Int32.toUInt32 31)).toInt32))
noncomputable def bJ6_numberOfLeadingZeros_0f7a4_61 (x0 : Int32) (x1 : Int32) : Option (Int32) := br (x0 < (4 : Int32)) (bJ6_numberOfLeadingZeros_0f7a4_73 x0 x1) (lt_ (x1 + (-2 : Int32)) (fun y2 => lt_ ((x0.toUInt32 >>> ((2 : Int32).toUInt32 &&& Int32.toUInt32 31)).toInt32) (fun y3 => bJ6_numberOfLeadingZeros_0f7a4_73 y3 y2)))
noncomputable def bJ6_numberOfLeadingZeros_0f7a4_48 (x0 : Int32) (x1 : Int32) : Option (Int32) := br (x0 < (16 : Int32)) (bJ6_numberOfLeadingZeros_0f7a4_61 x0 x1) (lt_ (x1 + (-4 : Int32)) (fun y5 => lt_ ((x0.toUInt32 >>> ((4 : Int32).toUInt32 &&& Int32.toUInt32 31)).toInt32) (fun y6 => bJ6_numberOfLeadingZeros_0f7a4_61 y6 y5)))
noncomputable def bJ6_numberOfLeadingZeros_0f7a4_33 (x0 : Int32) (x1 : Int32) : Option (Int32) := br (x0 < (256 : Int32)) (bJ6_numberOfLeadingZeros_0f7a4_48 x0 x1) (lt_ (x1 + (-8 : Int32)) (fun y8 => lt_ ((x0.toUInt32 >>> ((8 : Int32).toUInt32 &&& Int32.toUInt32 31)).toInt32) (fun y9 => bJ6_numberOfLeadingZeros_0f7a4_48 y9 y8)))
noncomputable def fJ6_numberOfLeadingZeros_0f7a4 (q0 : Int32) : Option (Int32) := br (0 < q0) (br (q0 < (65536 : Int32)) (bJ6_numberOfLeadingZeros_0f7a4_33 q0 (31 : Int32)) (lt_ ((31 : Int32) + (-16 : Int32)) (fun y12 => lt_ ((q0.toUInt32 >>> ((16 : Int32).toUInt32 &&& Int32.toUInt32 31)).toInt32) (fun y13 => bJ6_numberOfLeadingZeros_0f7a4_33 y13 y12)))) (br (q0 = 0) (some ((32 : Int32))) (some ((0 : Int32))))
set_option maxHeartbeats 4000000 in
set_option maxRecDepth 100000 in
theorem cJ6_numberOfLeadingZeros_0f7a4_ct (l : Launch) (D : va_G) (cI cL cC cZ : ClassId) (q0 : Int32) (r0 : Int32) (hf : fJ6_numberOfLeadingZeros_0f7a4 q0 = some r0) : CtI l yJ6_numberOfLeadingZeros_0f7a4 wsJ6_numberOfLeadingZeros_0f7a4 rmJ6_numberOfLeadingZeros_0f7a4 D (tyz cI cL cC cZ) [.int q0] [] [] r0 := by
  refine CtI.make (cc := cJ6_numberOfLeadingZeros_0f7a4) (maxL := 2) (ty := .int) (by decide) rfl (Nat.le_of_ble_eq_true rfl) ?_
  intro p e s m below meth c A ls C0 hN hA hP hD hl
  obtain ⟨hx, hb, hr, hml, hown, hts, hlk⟩ := id C0
  have hown : s.vm.findClass RJ6 = some m.cls := hown
  have hS : va_S A s.heap s.heap [] := va_S.rf
  have hP : va_P D vwCl [] s.heap := hP
  have hD : va_D A [] := hD
  have hl : lv_has ls 2 [(0, .int q0)] := hl
  have z1 := hts (.constant RJ6 264 (65536)) (by decide +kernel)
  have w73 : ∀ (x0 : Int32) (x1 : Int32) (H : Heap) (locs : List Loc) (ls : Array Slot), bJ6_numberOfLeadingZeros_0f7a4_73 x0 x1 = some r0 → va_P D vwCl [] H → va_D A [] → va_S A s.heap H locs → lv_has ls 2 [(0, .int x0), (1, .int x1)] → W p l e rmJ6_numberOfLeadingZeros_0f7a4 s m ([.int q0] : List Value).toArray below meth c H locs 0 0 (MQ below (cQi D r0 A []) ([.int q0] : List Value).toArray s 0 0 A) (F0 m 73 ls []) := by
    intro x0 x1 H locs ls hf hP hD hS hl
    unfold bJ6_numberOfLeadingZeros_0f7a4_73 at hf
    refine lv_iload_n hx hb dJ6_numberOfLeadingZeros_0f7a4_73 rfl (lv_at hl 1 rfl) ?_
    refine lv_iload_n hx hb dJ6_numberOfLeadingZeros_0f7a4_74 rfl (lv_at hl 0 rfl) ?_
    refine lv_iconst (v := 1) hx hb dJ6_numberOfLeadingZeros_0f7a4_75 (by decide) ?_
    refine lv_iushr hx hb dJ6_numberOfLeadingZeros_0f7a4_76 rfl ?_
    refine lv_isub hx hb dJ6_numberOfLeadingZeros_0f7a4_77 ?_
    have hE : x1 - ((x0.toUInt32 >>> ((1 : Int32).toUInt32 &&& Int32.toUInt32 31)).toInt32) = r0 := Option.some.inj hf
    subst hE
    exact rtI hx hb hr hlk hP hD hS dJ6_numberOfLeadingZeros_0f7a4_78
  have w61 : ∀ (x0 : Int32) (x1 : Int32) (H : Heap) (locs : List Loc) (ls : Array Slot), bJ6_numberOfLeadingZeros_0f7a4_61 x0 x1 = some r0 → va_P D vwCl [] H → va_D A [] → va_S A s.heap H locs → lv_has ls 2 [(0, .int x0), (1, .int x1)] → W p l e rmJ6_numberOfLeadingZeros_0f7a4 s m ([.int q0] : List Value).toArray below meth c H locs 0 0 (MQ below (cQi D r0 A []) ([.int q0] : List Value).toArray s 0 0 A) (F0 m 61 ls []) := by
    intro x0 x1 H locs ls hf hP hD hS hl
    unfold bJ6_numberOfLeadingZeros_0f7a4_61 at hf
    refine lv_iload_n hx hb dJ6_numberOfLeadingZeros_0f7a4_61 rfl (lv_at hl 0 rfl) ?_
    refine lv_iconst (v := 4) hx hb dJ6_numberOfLeadingZeros_0f7a4_62 (by decide) ?_
    refine lv_icmp_lt (tgt := 73) hx hb dJ6_numberOfLeadingZeros_0f7a4_63 (by decide) (fun c1 => ?_) (fun c1 => ?_)
    · have hf := br_pos c1 hf
      exact w73 x0 x1 H locs ls hf hP hD hS (lv_sub hl [0, 1] rfl)
    · have hf := br_neg c1 hf
      obtain ⟨y2, ey2⟩ : ∃ z : Int32, z = x1 + (-2 : Int32) := ⟨_, rfl⟩
      have hf := lt_some hf y2 ey2
      refine lv_iinc (v := y2) (lv' := [(1, .int y2), (0, .int x0)]) hx hb dJ6_numberOfLeadingZeros_0f7a4_66 hl (k := 1) rfl (by rw [ey2]; rfl) (by decide) rfl (fun ls hl => ?_)
      refine lv_iload_n hx hb dJ6_numberOfLeadingZeros_0f7a4_69 rfl (lv_at hl 1 rfl) ?_
      refine lv_iconst (v := 2) hx hb dJ6_numberOfLeadingZeros_0f7a4_70 (by decide) ?_
      refine lv_iushr hx hb dJ6_numberOfLeadingZeros_0f7a4_71 rfl ?_
      refine lv_topi (fun y3 ey3 => ?_)
      have hf := lt_some hf y3 ey3
      refine lv_istore_n (lv' := [(0, .int y3), (1, .int y2)]) hx hb dJ6_numberOfLeadingZeros_0f7a4_72 rfl hl (by decide) rfl (fun ls hl => ?_)
      exact w73 y3 y2 H locs ls hf hP hD hS (lv_sub hl [0, 1] rfl)
  have w48 : ∀ (x0 : Int32) (x1 : Int32) (H : Heap) (locs : List Loc) (ls : Array Slot), bJ6_numberOfLeadingZeros_0f7a4_48 x0 x1 = some r0 → va_P D vwCl [] H → va_D A [] → va_S A s.heap H locs → lv_has ls 2 [(0, .int x0), (1, .int x1)] → W p l e rmJ6_numberOfLeadingZeros_0f7a4 s m ([.int q0] : List Value).toArray below meth c H locs 0 0 (MQ below (cQi D r0 A []) ([.int q0] : List Value).toArray s 0 0 A) (F0 m 48 ls []) := by
    intro x0 x1 H locs ls hf hP hD hS hl
    unfold bJ6_numberOfLeadingZeros_0f7a4_48 at hf
    refine lv_iload_n hx hb dJ6_numberOfLeadingZeros_0f7a4_48 rfl (lv_at hl 0 rfl) ?_
    refine lv_bipush (v := 16) hx hb dJ6_numberOfLeadingZeros_0f7a4_49 (by decide) ?_
    refine lv_icmp_lt (tgt := 61) hx hb dJ6_numberOfLeadingZeros_0f7a4_51 (by decide) (fun c4 => ?_) (fun c4 => ?_)
    · have hf := br_pos c4 hf
      exact w61 x0 x1 H locs ls hf hP hD hS (lv_sub hl [0, 1] rfl)
    · have hf := br_neg c4 hf
      obtain ⟨y5, ey5⟩ : ∃ z : Int32, z = x1 + (-4 : Int32) := ⟨_, rfl⟩
      have hf := lt_some hf y5 ey5
      refine lv_iinc (v := y5) (lv' := [(1, .int y5), (0, .int x0)]) hx hb dJ6_numberOfLeadingZeros_0f7a4_54 hl (k := 1) rfl (by rw [ey5]; rfl) (by decide) rfl (fun ls hl => ?_)
      refine lv_iload_n hx hb dJ6_numberOfLeadingZeros_0f7a4_57 rfl (lv_at hl 1 rfl) ?_
      refine lv_iconst (v := 4) hx hb dJ6_numberOfLeadingZeros_0f7a4_58 (by decide) ?_
      refine lv_iushr hx hb dJ6_numberOfLeadingZeros_0f7a4_59 rfl ?_
      refine lv_topi (fun y6 ey6 => ?_)
      have hf := lt_some hf y6 ey6
      refine lv_istore_n (lv' := [(0, .int y6), (1, .int y5)]) hx hb dJ6_numberOfLeadingZeros_0f7a4_60 rfl hl (by decide) rfl (fun ls hl => ?_)
      exact w61 y6 y5 H locs ls hf hP hD hS (lv_sub hl [0, 1] rfl)
  have w33 : ∀ (x0 : Int32) (x1 : Int32) (H : Heap) (locs : List Loc) (ls : Array Slot), bJ6_numberOfLeadingZeros_0f7a4_33 x0 x1 = some r0 → va_P D vwCl [] H → va_D A [] → va_S A s.heap H locs → lv_has ls 2 [(0, .int x0), (1, .int x1)] → W p l e rmJ6_numberOfLeadingZeros_0f7a4 s m ([.int q0] : List Value).toArray below meth c H locs 0 0 (MQ below (cQi D r0 A []) ([.int q0] : List Value).toArray s 0 0 A) (F0 m 33 ls []) := by
    intro x0 x1 H locs ls hf hP hD hS hl
    unfold bJ6_numberOfLeadingZeros_0f7a4_33 at hf
    refine lv_iload_n hx hb dJ6_numberOfLeadingZeros_0f7a4_33 rfl (lv_at hl 0 rfl) ?_
    refine lv_sipush (v := 256) hx hb dJ6_numberOfLeadingZeros_0f7a4_34 (by decide) ?_
    refine lv_icmp_lt (tgt := 48) hx hb dJ6_numberOfLeadingZeros_0f7a4_37 (by decide) (fun c7 => ?_) (fun c7 => ?_)
    · have hf := br_pos c7 hf
      exact w48 x0 x1 H locs ls hf hP hD hS (lv_sub hl [0, 1] rfl)
    · have hf := br_neg c7 hf
      obtain ⟨y8, ey8⟩ : ∃ z : Int32, z = x1 + (-8 : Int32) := ⟨_, rfl⟩
      have hf := lt_some hf y8 ey8
      refine lv_iinc (v := y8) (lv' := [(1, .int y8), (0, .int x0)]) hx hb dJ6_numberOfLeadingZeros_0f7a4_40 hl (k := 1) rfl (by rw [ey8]; rfl) (by decide) rfl (fun ls hl => ?_)
      refine lv_iload_n hx hb dJ6_numberOfLeadingZeros_0f7a4_43 rfl (lv_at hl 1 rfl) ?_
      refine lv_bipush (v := 8) hx hb dJ6_numberOfLeadingZeros_0f7a4_44 (by decide) ?_
      refine lv_iushr hx hb dJ6_numberOfLeadingZeros_0f7a4_46 rfl ?_
      refine lv_topi (fun y9 ey9 => ?_)
      have hf := lt_some hf y9 ey9
      refine lv_istore_n (lv' := [(0, .int y9), (1, .int y8)]) hx hb dJ6_numberOfLeadingZeros_0f7a4_47 rfl hl (by decide) rfl (fun ls hl => ?_)
      exact w48 y9 y8 H locs ls hf hP hD hS (lv_sub hl [0, 1] rfl)
  unfold fJ6_numberOfLeadingZeros_0f7a4 at hf
  obtain ⟨H, eH⟩ : ∃ z, z = s.heap := ⟨_, rfl⟩
  obtain ⟨locs, eL⟩ : ∃ z : List Loc, z = [] := ⟨_, rfl⟩
  have hP : va_P D vwCl [] H := by rw [eH]; exact hP
  have hS : va_S A s.heap H locs := by rw [eH, eL]; exact hS
  suffices hG : W p l e rmJ6_numberOfLeadingZeros_0f7a4 s m ([.int q0] : List Value).toArray below meth c H locs 0 0 (MQ below (cQi D r0 A []) ([.int q0] : List Value).toArray s 0 0 A) (F0 m 0 ls []) by rw [eH, eL] at hG; exact hG
  refine lv_iload_n hx hb dJ6_numberOfLeadingZeros_0f7a4_0 rfl (lv_at hl 0 rfl) ?_
  refine lv_if_gt (tgt := 15) hx hb dJ6_numberOfLeadingZeros_0f7a4_1 (by decide) (fun c10 => ?_) (fun c10 => ?_)
  · have hf := br_pos c10 hf
    refine lv_bipush (v := 31) hx hb dJ6_numberOfLeadingZeros_0f7a4_15 (by decide) ?_
    refine lv_istore_n (lv' := [(1, .int (31 : Int32)), (0, .int q0)]) hx hb dJ6_numberOfLeadingZeros_0f7a4_17 rfl hl (by decide) rfl (fun ls hl => ?_)
    refine lv_iload_n hx hb dJ6_numberOfLeadingZeros_0f7a4_18 rfl (lv_at hl 1 rfl) ?_
    refine lv_ldcw (v := 65536) hx hb hown z1 dJ6_numberOfLeadingZeros_0f7a4_19 ?_
    refine lv_icmp_lt (tgt := 33) hx hb dJ6_numberOfLeadingZeros_0f7a4_22 (by decide) (fun c11 => ?_) (fun c11 => ?_)
    · have hf := br_pos c11 hf
      exact w33 q0 (31 : Int32) H locs ls hf hP hD hS (lv_sub hl [1, 0] rfl)
    · have hf := br_neg c11 hf
      obtain ⟨y12, ey12⟩ : ∃ z : Int32, z = (31 : Int32) + (-16 : Int32) := ⟨_, rfl⟩
      have hf := lt_some hf y12 ey12
      refine lv_iinc (v := y12) (lv' := [(1, .int y12), (0, .int q0)]) hx hb dJ6_numberOfLeadingZeros_0f7a4_25 hl (k := 0) rfl (by rw [ey12]; rfl) (by decide) rfl (fun ls hl => ?_)
      refine lv_iload_n hx hb dJ6_numberOfLeadingZeros_0f7a4_28 rfl (lv_at hl 1 rfl) ?_
      refine lv_bipush (v := 16) hx hb dJ6_numberOfLeadingZeros_0f7a4_29 (by decide) ?_
      refine lv_iushr hx hb dJ6_numberOfLeadingZeros_0f7a4_31 rfl ?_
      refine lv_topi (fun y13 ey13 => ?_)
      have hf := lt_some hf y13 ey13
      refine lv_istore_n (lv' := [(0, .int y13), (1, .int y12)]) hx hb dJ6_numberOfLeadingZeros_0f7a4_32 rfl hl (by decide) rfl (fun ls hl => ?_)
      exact w33 y13 y12 H locs ls hf hP hD hS (lv_sub hl [0, 1] rfl)
  · have hf := br_neg c10 hf
    refine lv_iload_n hx hb dJ6_numberOfLeadingZeros_0f7a4_4 rfl (lv_at hl 0 rfl) ?_
    refine lv_if_ne (tgt := 13) hx hb dJ6_numberOfLeadingZeros_0f7a4_5 (by decide) (fun c14 => ?_) (fun c14 => ?_)
    · have hf := br_neg c14 hf
      refine lv_iconst (v := 0) hx hb dJ6_numberOfLeadingZeros_0f7a4_13 (by decide) ?_
      have hE : (0 : Int32) = r0 := Option.some.inj hf
      subst hE
      exact rtI hx hb hr hlk hP hD hS dJ6_numberOfLeadingZeros_0f7a4_14
    · have hf := br_pos c14 hf
      refine lv_bipush (v := 32) hx hb dJ6_numberOfLeadingZeros_0f7a4_8 (by decide) ?_
      refine lv_goto (tgt := 14) hx hb dJ6_numberOfLeadingZeros_0f7a4_10 (by decide) ?_
      have hE : (32 : Int32) = r0 := Option.some.inj hf
      subst hE
      exact rtI hx hb hr hlk hP hD hS dJ6_numberOfLeadingZeros_0f7a4_14
abbrev rmJ13_numberOfLeadingZeros_95d88 : Room := { frames := 1, cells := 0, slots := 0, locals := 21 }
noncomputable def fJ13_numberOfLeadingZeros_95d88 (q0 : Int64) : Option (Int32) := lt_ (((q0.toUInt64 >>> ((32 : Int32).toInt64.toUInt64 &&& Int64.toUInt64 63)).toInt64).toInt32) (fun y1 => br (y1 = 0) (bd (fJ6_numberOfLeadingZeros_0f7a4 q0.toInt32) (fun u4 => some ((32 : Int32) + u4))) (bd (fJ6_numberOfLeadingZeros_0f7a4 y1) (fun u3 => some (u3))))
set_option maxHeartbeats 4000000 in
set_option maxRecDepth 100000 in
theorem cJ13_numberOfLeadingZeros_95d88_ct (l : Launch) (D : va_G) (cI cL cC cZ : ClassId) (q0 : Int64) (r0 : Int32) (hf : fJ13_numberOfLeadingZeros_95d88 q0 = some r0) : CtI l yJ13_numberOfLeadingZeros_95d88 wsJ13_numberOfLeadingZeros_95d88 rmJ13_numberOfLeadingZeros_95d88 D (tyz cI cL cC cZ) [.long q0] [] [] r0 := by
  refine CtI.make (cc := cJ13_numberOfLeadingZeros_95d88) (maxL := 3) (ty := .int) (by decide) rfl (Nat.le_of_ble_eq_true rfl) ?_
  intro p e s m below meth c A ls C0 hN hA hP hD hl
  obtain ⟨hx, hb, hr, hml, hown, hts, hlk⟩ := id C0
  have hown : s.vm.findClass RJ13 = some m.cls := hown
  have hS : va_S A s.heap s.heap [] := va_S.rf
  have hP : va_P D vwCl [] s.heap := hP
  have hD : va_D A [] := hD
  have hl : lv_has ls 3 [(0, .long q0)] := hl
  have z1 := va_cwS (R := rmJ13_numberOfLeadingZeros_95d88) (rm := rmJ6_numberOfLeadingZeros_0f7a4) (mc := 0) (ms := 0) 1 hts gJ13_numberOfLeadingZeros_95d88_J6_numberOfLeadingZeros_0f7a4 rfl rfl rfl (by decide +kernel) ⟨Nat.le_of_ble_eq_true rfl, Nat.le_of_ble_eq_true rfl⟩
  unfold fJ13_numberOfLeadingZeros_95d88 at hf
  obtain ⟨H, eH⟩ : ∃ z, z = s.heap := ⟨_, rfl⟩
  obtain ⟨locs, eL⟩ : ∃ z : List Loc, z = [] := ⟨_, rfl⟩
  have hP : va_P D vwCl [] H := by rw [eH]; exact hP
  have hS : va_S A s.heap H locs := by rw [eH, eL]; exact hS
  suffices hG : W p l e rmJ13_numberOfLeadingZeros_95d88 s m ([.long q0] : List Value).toArray below meth c H locs 0 0 (MQ below (cQi D r0 A []) ([.long q0] : List Value).toArray s 0 0 A) (F0 m 0 ls []) by rw [eH, eL] at hG; exact hG
  refine lv_lload_n hx hb dJ13_numberOfLeadingZeros_95d88_0 rfl (lv_at hl 0 rfl) ?_
  refine lv_bipush (v := 32) hx hb dJ13_numberOfLeadingZeros_95d88_1 (by decide) ?_
  refine lv_lushr hx hb dJ13_numberOfLeadingZeros_95d88_3 rfl ?_
  refine lv_l2i hx hb dJ13_numberOfLeadingZeros_95d88_4 rfl ?_
  refine lv_topi (fun y1 ey1 => ?_)
  have hf := lt_some hf y1 ey1
  refine lv_istore_n (lv' := [(2, .int y1), (0, .long q0)]) hx hb dJ13_numberOfLeadingZeros_95d88_5 rfl hl (by decide) rfl (fun ls hl => ?_)
  refine lv_iload_n hx hb dJ13_numberOfLeadingZeros_95d88_6 rfl (lv_at hl 0 rfl) ?_
  refine lv_if_ne (tgt := 21) hx hb dJ13_numberOfLeadingZeros_95d88_7 (by decide) (fun c2 => ?_) (fun c2 => ?_)
  · have hf := br_neg c2 hf
    refine lv_iload_n hx hb dJ13_numberOfLeadingZeros_95d88_21 rfl (lv_at hl 0 rfl) ?_
    obtain ⟨u3, hu3, hf⟩ := bd_some hf
    refine caSI (rest := []) (As := [.int y1]) (wr := []) (wo := []) ⟨hx, hb, hml, hown, hts⟩ hN hP hD hS hA (cJ6_numberOfLeadingZeros_0f7a4_ct l D cI cL cC cZ y1 u3 hu3) z1 [] [] [] rfl (by decide) rfl (by decide) (by decide) rfl (by decide) rfl hl.1 rfl (Nat.le_of_ble_eq_true rfl) dJ13_numberOfLeadingZeros_95d88_22 ⟨Nat.zero_le _, Nat.zero_le _⟩ (fun H locs hP hD hS => ?_)
    have hE : u3 = r0 := Option.some.inj hf
    subst hE
    exact rtI hx hb hr hlk hP hD hS dJ13_numberOfLeadingZeros_95d88_25
  · have hf := br_pos c2 hf
    refine lv_bipush (v := 32) hx hb dJ13_numberOfLeadingZeros_95d88_10 (by decide) ?_
    refine lv_lload_n hx hb dJ13_numberOfLeadingZeros_95d88_12 rfl (lv_at hl 1 rfl) ?_
    refine lv_l2i hx hb dJ13_numberOfLeadingZeros_95d88_13 rfl ?_
    obtain ⟨u4, hu4, hf⟩ := bd_some hf
    refine caSI (rest := [.int (32 : Int32)]) (As := [.int q0.toInt32]) (wr := []) (wo := []) ⟨hx, hb, hml, hown, hts⟩ hN hP hD hS hA (cJ6_numberOfLeadingZeros_0f7a4_ct l D cI cL cC cZ q0.toInt32 u4 hu4) z1 [] [] [] rfl (by decide) rfl (by decide) (by decide) rfl (by decide) rfl hl.1 rfl (Nat.le_of_ble_eq_true rfl) dJ13_numberOfLeadingZeros_95d88_14 ⟨Nat.zero_le _, Nat.zero_le _⟩ (fun H locs hP hD hS => ?_)
    refine lv_iadd hx hb dJ13_numberOfLeadingZeros_95d88_17 ?_
    refine lv_goto (tgt := 25) hx hb dJ13_numberOfLeadingZeros_95d88_18 (by decide) ?_
    have hE : (32 : Int32) + u4 = r0 := Option.some.inj hf
    subst hE
    exact rtI hx hb hr hlk hP hD hS dJ13_numberOfLeadingZeros_95d88_25
abbrev rmJ13_bitCount_95d88 : Room := { frames := 0, cells := 0, slots := 0, locals := 0 }
noncomputable def fJ13_bitCount_95d88 (q0 : Int64) : Option (Int32) := lt_ (q0 - (((q0.toUInt64 >>> ((1 : Int32).toInt64.toUInt64 &&& Int64.toUInt64 63)).toInt64) &&& (6148914691236517205 : Int64))) (fun y1 => lt_ ((y1 &&& (3689348814741910323 : Int64)) + (((y1.toUInt64 >>> ((2 : Int32).toInt64.toUInt64 &&& Int64.toUInt64 63)).toInt64) &&& (3689348814741910323 : Int64))) (fun y2 => lt_ ((y2 + ((y2.toUInt64 >>> ((4 : Int32).toInt64.toUInt64 &&& Int64.toUInt64 63)).toInt64)) &&& (1085102592571150095 : Int64)) (fun y3 => lt_ (y3 + ((y3.toUInt64 >>> ((8 : Int32).toInt64.toUInt64 &&& Int64.toUInt64 63)).toInt64)) (fun y4 => lt_ (y4 + ((y4.toUInt64 >>> ((16 : Int32).toInt64.toUInt64 &&& Int64.toUInt64 63)).toInt64)) (fun y5 => lt_ (y5 + ((y5.toUInt64 >>> ((32 : Int32).toInt64.toUInt64 &&& Int64.toUInt64 63)).toInt64)) (fun y6 => some (y6.toInt32 &&& (127 : Int32))))))))
set_option maxHeartbeats 4000000 in
set_option maxRecDepth 100000 in
theorem cJ13_bitCount_95d88_ct (l : Launch) (D : va_G) (cI cL cC cZ : ClassId) (q0 : Int64) (r0 : Int32) (hf : fJ13_bitCount_95d88 q0 = some r0) : CtI l yJ13_bitCount_95d88 wsJ13_bitCount_95d88 rmJ13_bitCount_95d88 D (tyz cI cL cC cZ) [.long q0] [] [] r0 := by
  refine CtI.make (cc := cJ13_bitCount_95d88) (maxL := 2) (ty := .int) (by decide) rfl (Nat.le_of_ble_eq_true rfl) ?_
  intro p e s m below meth c A ls C0 hN hA hP hD hl
  obtain ⟨hx, hb, hr, hml, hown, hts, hlk⟩ := id C0
  have hown : s.vm.findClass RJ13 = some m.cls := hown
  have hS : va_S A s.heap s.heap [] := va_S.rf
  have hP : va_P D vwCl [] s.heap := hP
  have hD : va_D A [] := hD
  have hl : lv_has ls 2 [(0, .long q0)] := hl
  have z1 := hts (.constantLong RJ13 314 (6148914691236517205)) (by decide +kernel)
  have z2 := hts (.constantLong RJ13 316 (3689348814741910323)) (by decide +kernel)
  have z3 := hts (.constantLong RJ13 318 (1085102592571150095)) (by decide +kernel)
  unfold fJ13_bitCount_95d88 at hf
  obtain ⟨H, eH⟩ : ∃ z, z = s.heap := ⟨_, rfl⟩
  obtain ⟨locs, eL⟩ : ∃ z : List Loc, z = [] := ⟨_, rfl⟩
  have hP : va_P D vwCl [] H := by rw [eH]; exact hP
  have hS : va_S A s.heap H locs := by rw [eH, eL]; exact hS
  suffices hG : W p l e rmJ13_bitCount_95d88 s m ([.long q0] : List Value).toArray below meth c H locs 0 0 (MQ below (cQi D r0 A []) ([.long q0] : List Value).toArray s 0 0 A) (F0 m 0 ls []) by rw [eH, eL] at hG; exact hG
  refine lv_lload_n hx hb dJ13_bitCount_95d88_0 rfl (lv_at hl 0 rfl) ?_
  refine lv_lload_n hx hb dJ13_bitCount_95d88_1 rfl (lv_at hl 0 rfl) ?_
  refine lv_iconst (v := 1) hx hb dJ13_bitCount_95d88_2 (by decide) ?_
  refine lv_lushr hx hb dJ13_bitCount_95d88_3 rfl ?_
  refine lv_ldc2 (v := 6148914691236517205) hx hb hown z1 dJ13_bitCount_95d88_4 ?_
  refine lv_land hx hb dJ13_bitCount_95d88_7 ?_
  refine lv_lsub hx hb dJ13_bitCount_95d88_8 ?_
  refine lv_topl (fun y1 ey1 => ?_)
  have hf := lt_some hf y1 ey1
  refine lv_lstore_n (lv' := [(0, .long y1)]) hx hb dJ13_bitCount_95d88_9 rfl hl (by decide) rfl (fun ls hl => ?_)
  refine lv_lload_n hx hb dJ13_bitCount_95d88_10 rfl (lv_at hl 0 rfl) ?_
  refine lv_ldc2 (v := 3689348814741910323) hx hb hown z2 dJ13_bitCount_95d88_11 ?_
  refine lv_land hx hb dJ13_bitCount_95d88_14 ?_
  refine lv_lload_n hx hb dJ13_bitCount_95d88_15 rfl (lv_at hl 0 rfl) ?_
  refine lv_iconst (v := 2) hx hb dJ13_bitCount_95d88_16 (by decide) ?_
  refine lv_lushr hx hb dJ13_bitCount_95d88_17 rfl ?_
  refine lv_ldc2 (v := 3689348814741910323) hx hb hown z2 dJ13_bitCount_95d88_18 ?_
  refine lv_land hx hb dJ13_bitCount_95d88_21 ?_
  refine lv_ladd hx hb dJ13_bitCount_95d88_22 ?_
  refine lv_topl (fun y2 ey2 => ?_)
  have hf := lt_some hf y2 ey2
  refine lv_lstore_n (lv' := [(0, .long y2)]) hx hb dJ13_bitCount_95d88_23 rfl hl (by decide) rfl (fun ls hl => ?_)
  refine lv_lload_n hx hb dJ13_bitCount_95d88_24 rfl (lv_at hl 0 rfl) ?_
  refine lv_lload_n hx hb dJ13_bitCount_95d88_25 rfl (lv_at hl 0 rfl) ?_
  refine lv_iconst (v := 4) hx hb dJ13_bitCount_95d88_26 (by decide) ?_
  refine lv_lushr hx hb dJ13_bitCount_95d88_27 rfl ?_
  refine lv_ladd hx hb dJ13_bitCount_95d88_28 ?_
  refine lv_ldc2 (v := 1085102592571150095) hx hb hown z3 dJ13_bitCount_95d88_29 ?_
  refine lv_land hx hb dJ13_bitCount_95d88_32 ?_
  refine lv_topl (fun y3 ey3 => ?_)
  have hf := lt_some hf y3 ey3
  refine lv_lstore_n (lv' := [(0, .long y3)]) hx hb dJ13_bitCount_95d88_33 rfl hl (by decide) rfl (fun ls hl => ?_)
  refine lv_lload_n hx hb dJ13_bitCount_95d88_34 rfl (lv_at hl 0 rfl) ?_
  refine lv_lload_n hx hb dJ13_bitCount_95d88_35 rfl (lv_at hl 0 rfl) ?_
  refine lv_bipush (v := 8) hx hb dJ13_bitCount_95d88_36 (by decide) ?_
  refine lv_lushr hx hb dJ13_bitCount_95d88_38 rfl ?_
  refine lv_ladd hx hb dJ13_bitCount_95d88_39 ?_
  refine lv_topl (fun y4 ey4 => ?_)
  have hf := lt_some hf y4 ey4
  refine lv_lstore_n (lv' := [(0, .long y4)]) hx hb dJ13_bitCount_95d88_40 rfl hl (by decide) rfl (fun ls hl => ?_)
  refine lv_lload_n hx hb dJ13_bitCount_95d88_41 rfl (lv_at hl 0 rfl) ?_
  refine lv_lload_n hx hb dJ13_bitCount_95d88_42 rfl (lv_at hl 0 rfl) ?_
  refine lv_bipush (v := 16) hx hb dJ13_bitCount_95d88_43 (by decide) ?_
  refine lv_lushr hx hb dJ13_bitCount_95d88_45 rfl ?_
  refine lv_ladd hx hb dJ13_bitCount_95d88_46 ?_
  refine lv_topl (fun y5 ey5 => ?_)
  have hf := lt_some hf y5 ey5
  refine lv_lstore_n (lv' := [(0, .long y5)]) hx hb dJ13_bitCount_95d88_47 rfl hl (by decide) rfl (fun ls hl => ?_)
  refine lv_lload_n hx hb dJ13_bitCount_95d88_48 rfl (lv_at hl 0 rfl) ?_
  refine lv_lload_n hx hb dJ13_bitCount_95d88_49 rfl (lv_at hl 0 rfl) ?_
  refine lv_bipush (v := 32) hx hb dJ13_bitCount_95d88_50 (by decide) ?_
  refine lv_lushr hx hb dJ13_bitCount_95d88_52 rfl ?_
  refine lv_ladd hx hb dJ13_bitCount_95d88_53 ?_
  refine lv_topl (fun y6 ey6 => ?_)
  have hf := lt_some hf y6 ey6
  refine lv_lstore_n (lv' := [(0, .long y6)]) hx hb dJ13_bitCount_95d88_54 rfl hl (by decide) rfl (fun ls hl => ?_)
  refine lv_lload_n hx hb dJ13_bitCount_95d88_55 rfl (lv_at hl 0 rfl) ?_
  refine lv_l2i hx hb dJ13_bitCount_95d88_56 rfl ?_
  refine lv_bipush (v := 127) hx hb dJ13_bitCount_95d88_57 (by decide) ?_
  refine lv_iand hx hb dJ13_bitCount_95d88_59 ?_
  have hE : y6.toInt32 &&& (127 : Int32) = r0 := Option.some.inj hf
  subst hE
  exact rtI hx hb hr hlk hP hD hS dJ13_bitCount_95d88_60
abbrev rmJ7_fill_53178 : Room := { frames := 0, cells := 0, slots := 0, locals := 0 }
noncomputable def bJ7_fill_53178_5 (n_p0 : Nat) (x1 : Int32) (x3 : Int32) (x2 : Int32) (g_p0 : Nat → Int32) : Option ((Int32 × (Nat → Int32)) ⊕ (Nat → Int32)) := br (x3 ≤ x2) (some (Sum.inr (g_p0))) (gd (¬ x2 < 0 ∧ x2.toNatClampNeg < n_p0) (lt_ (upd g_p0 x2.toNatClampNeg x1) (fun y3 => lt_ (x2 + (1 : Int32)) (fun y4 => some (Sum.inl ((y4, y3)))))))
noncomputable def sJ7_fill_53178_5 (x1 : Int32) (x3 : Int32) (n_p0 : Nat) : (Int32 × (Nat → Int32)) → Option ((Int32 × (Nat → Int32)) ⊕ (Nat → Int32)) := fun q => bJ7_fill_53178_5 n_p0 x1 x3 q.1 q.2
noncomputable def fJ7_fill_53178 (q1 : Int32) (n_p0 : Nat) (g_p0 : Nat → Int32) : Option (Nat → Int32) := lt_ (Int32.ofNat n_p0) (fun y5 => run (sJ7_fill_53178_5 q1 y5 n_p0) (((0 : Int32), g_p0)))
set_option maxHeartbeats 4000000 in
set_option maxRecDepth 100000 in
theorem cJ7_fill_53178_ct (l : Launch) (D : va_G) (cI cL cC cZ : ClassId) (a_p0 : Nat) (n_p0 : Nat) (g_p0 : Nat → Int32) (q1 : Int32) (v_p0 : Nat → Int32) (hf : fJ7_fill_53178 q1 n_p0 g_p0 = some v_p0) : CtV l yJ7_fill_53178 wsJ7_fill_53178 rmJ7_fill_53178 D (tyz cI cL cC cZ) [.ref a_p0, .int q1] [(a_p0, .inl (cI, n_p0, .inl g_p0))] [(a_p0, .inl (cI, n_p0, .inl v_p0))] := by
  refine CtV.make (cc := cJ7_fill_53178) (maxL := 4) (by decide) rfl (Nat.le_of_ble_eq_true rfl) ?_
  intro p e s m below meth c A ls C0 hN hA hP hD hl
  obtain ⟨hx, hb, hr, hml, hown, hts, hlk⟩ := id C0
  have hown : s.vm.findClass RJ7 = some m.cls := hown
  have hS : va_S A s.heap s.heap [] := va_S.rf
  have hP : va_P D vwCl [(a_p0, .inl (cI, n_p0, .inl g_p0))] s.heap := hP
  have hD : va_D A [(a_p0, .inl (cI, n_p0, .inl g_p0))] := hD
  have hl : lv_has ls 4 [(0, .ref a_p0), (1, .int q1)] := hl
  have w5 : ∀ (x1 : Int32) (x3 : Int32) (x2 : Int32) (g_p0 : Nat → Int32) (t : Nat → Int32) (H : Heap) (locs : List Loc) (ls : Array Slot), run (sJ7_fill_53178_5 x1 x3 n_p0) ((x2, g_p0)) = some t → (fun z => z = v_p0) t → va_P D vwCl [(a_p0, .inl (cI, n_p0, .inl g_p0))] H → va_D A [(a_p0, .inl (cI, n_p0, .inl g_p0))] → va_S A s.heap H locs → lv_has ls 4 [(0, .ref a_p0), (1, .int x1), (2, .int x2), (3, .int x3)] → W p l e rmJ7_fill_53178 s m ([.ref a_p0, .int q1] : List Value).toArray below meth c H locs 0 0 (MQ below (cQv D A [(a_p0, .inl (cI, n_p0, .inl v_p0))]) ([.ref a_p0, .int q1] : List Value).toArray s 0 0 A) (F0 m 5 ls []) := by
    intro x1 x3
    obtain ⟨F5, eF5⟩ : ∃ F : (Int32 × (Nat → Int32)) → Prop, F = fun q => ∀ (H : Heap) (locs : List Loc) (ls : Array Slot), va_P D vwCl [(a_p0, .inl (cI, n_p0, .inl q.2))] H → va_D A [(a_p0, .inl (cI, n_p0, .inl q.2))] → va_S A s.heap H locs → lv_has ls 4 [(0, .ref a_p0), (1, .int x1), (2, .int q.1), (3, .int x3)] → W p l e rmJ7_fill_53178 s m ([.ref a_p0, .int q1] : List Value).toArray below meth c H locs 0 0 (MQ below (cQv D A [(a_p0, .inl (cI, n_p0, .inl v_p0))]) ([.ref a_p0, .int q1] : List Value).toArray s 0 0 A) (F0 m 5 ls []) := ⟨_, rfl⟩
    have key : ∀ (q : Int32 × (Nat → Int32)) (t : Nat → Int32), run (sJ7_fill_53178_5 x1 x3 n_p0) q = some t → (fun z => z = v_p0) t → F5 q := by
      refine loop_rule (sJ7_fill_53178_5 x1 x3 n_p0) F5 (fun z => z = v_p0) ?_
      intro q t hf hF
      have hF : (Sum.elim F5 (fun z => z = v_p0)) t := hF
      rw [eF5]
      obtain ⟨x2, g_p0⟩ := q
      intro H locs ls hP hD hS hl
      have hP : va_P D vwCl [(a_p0, .inl (cI, n_p0, .inl g_p0))] H := hP
      have hD : va_D A [(a_p0, .inl (cI, n_p0, .inl g_p0))] := hD
      have hl : lv_has ls 4 [(0, .ref a_p0), (1, .int x1), (2, .int x2), (3, .int x3)] := hl
      have hf : bJ7_fill_53178_5 n_p0 x1 x3 x2 g_p0 = some t := hf
      unfold bJ7_fill_53178_5 at hf
      refine lv_iload_n hx hb dJ7_fill_53178_5 rfl (lv_at hl 2 rfl) ?_
      refine lv_iload_n hx hb dJ7_fill_53178_6 rfl (lv_at hl 3 rfl) ?_
      refine lv_icmp_ge (tgt := 20) hx hb dJ7_fill_53178_7 (by decide) (fun c1 => ?_) (fun c1 => ?_)
      · have hf := br_pos c1 hf
        cases hf
        have hE : g_p0 = v_p0 := hF
        subst hE
        exact rtV hx hb hr hlk hP hD hS dJ7_fill_53178_20
      · have hf := br_neg c1 hf
        refine lv_aload_n hx hb dJ7_fill_53178_10 rfl (lv_at hl 0 rfl) ?_
        refine lv_iload_n hx hb dJ7_fill_53178_11 rfl (lv_at hl 2 rfl) ?_
        refine lv_iload_n hx hb dJ7_fill_53178_12 rfl (lv_at hl 1 rfl) ?_
        obtain ⟨c2, hf⟩ := gd_some hf
        refine va_iast hx hb hN.1 hP hD hS 0 0 rfl rfl (ix_in c2) dJ7_fill_53178_13 (fun H locs hP hD hS => ?_)
        obtain ⟨y3, ey3⟩ : ∃ z, z = upd g_p0 x2.toNatClampNeg x1 := ⟨_, rfl⟩
        have hf := lt_some hf y3 ey3
        have hP : va_P D vwCl [(a_p0, .inl (cI, n_p0, .inl y3))] H := by rw [ey3]; exact hP
        have hD : va_D A [(a_p0, .inl (cI, n_p0, .inl y3))] := by rw [ey3]; exact hD
        obtain ⟨y4, ey4⟩ : ∃ z : Int32, z = x2 + (1 : Int32) := ⟨_, rfl⟩
        have hf := lt_some hf y4 ey4
        refine lv_iinc (v := y4) (lv' := [(2, .int y4), (0, .ref a_p0), (1, .int x1), (3, .int x3)]) hx hb dJ7_fill_53178_14 hl (k := 2) rfl (by rw [ey4]; rfl) (by decide) rfl (fun ls hl => ?_)
        refine lv_goto (tgt := 5) hx hb dJ7_fill_53178_17 (by decide) ?_
        cases hf
        exact ((congrFun eF5 _).mp hF) H locs ls hP hD hS (lv_sub hl [1, 2, 0, 3] rfl)
    intro x2 g_p0 t H locs ls hf hF hP hD hS hl
    exact ((congrFun eF5 _).mp (key ((x2, g_p0)) t hf hF)) H locs ls hP hD hS hl
  unfold fJ7_fill_53178 at hf
  obtain ⟨H, eH⟩ : ∃ z, z = s.heap := ⟨_, rfl⟩
  obtain ⟨locs, eL⟩ : ∃ z : List Loc, z = [] := ⟨_, rfl⟩
  have hP : va_P D vwCl [(a_p0, .inl (cI, n_p0, .inl g_p0))] H := by rw [eH]; exact hP
  have hS : va_S A s.heap H locs := by rw [eH, eL]; exact hS
  suffices hG : W p l e rmJ7_fill_53178 s m ([.ref a_p0, .int q1] : List Value).toArray below meth c H locs 0 0 (MQ below (cQv D A [(a_p0, .inl (cI, n_p0, .inl v_p0))]) ([.ref a_p0, .int q1] : List Value).toArray s 0 0 A) (F0 m 0 ls []) by rw [eH, eL] at hG; exact hG
  refine lv_iconst (v := 0) hx hb dJ7_fill_53178_0 (by decide) ?_
  refine lv_istore_n (lv' := [(2, .int (0 : Int32)), (0, .ref a_p0), (1, .int q1)]) hx hb dJ7_fill_53178_1 rfl hl (by decide) rfl (fun ls hl => ?_)
  refine lv_aload_n hx hb dJ7_fill_53178_2 rfl (lv_at hl 1 rfl) ?_
  refine va_alen (v := Int32.ofNat n_p0) hx hb hN.1 hP 0 0 rfl rfl rfl dJ7_fill_53178_3 ?_
  refine lv_topi (fun y5 ey5 => ?_)
  have hf := lt_some hf y5 ey5
  refine lv_istore_n (lv' := [(3, .int y5), (2, .int (0 : Int32)), (0, .ref a_p0), (1, .int q1)]) hx hb dJ7_fill_53178_4 rfl hl (by decide) rfl (fun ls hl => ?_)
  exact w5 q1 y5 (0 : Int32) g_p0 v_p0 H locs ls hf rfl hP hD hS (lv_sub hl [2, 3, 1, 0] rfl)
abbrev rmJ7_fill_d0a16 : Room := { frames := 0, cells := 0, slots := 0, locals := 0 }
noncomputable def bJ7_fill_d0a16_6 (n_p0 : Nat) (x1 : Int64) (x4 : Int32) (x3 : Int32) (g_p0 : Nat → Int64) : Option ((Int32 × (Nat → Int64)) ⊕ (Nat → Int64)) := br (x4 ≤ x3) (some (Sum.inr (g_p0))) (gd (¬ x3 < 0 ∧ x3.toNatClampNeg < n_p0) (lt_ (vp_updL g_p0 x3.toNatClampNeg x1) (fun y3 => lt_ (x3 + (1 : Int32)) (fun y4 => some (Sum.inl ((y4, y3)))))))
noncomputable def sJ7_fill_d0a16_6 (x1 : Int64) (x4 : Int32) (n_p0 : Nat) : (Int32 × (Nat → Int64)) → Option ((Int32 × (Nat → Int64)) ⊕ (Nat → Int64)) := fun q => bJ7_fill_d0a16_6 n_p0 x1 x4 q.1 q.2
noncomputable def fJ7_fill_d0a16 (q1 : Int64) (n_p0 : Nat) (g_p0 : Nat → Int64) : Option (Nat → Int64) := lt_ (Int32.ofNat n_p0) (fun y5 => run (sJ7_fill_d0a16_6 q1 y5 n_p0) (((0 : Int32), g_p0)))
set_option maxHeartbeats 4000000 in
set_option maxRecDepth 100000 in
theorem cJ7_fill_d0a16_ct (l : Launch) (D : va_G) (cI cL cC cZ : ClassId) (a_p0 : Nat) (n_p0 : Nat) (g_p0 : Nat → Int64) (q1 : Int64) (v_p0 : Nat → Int64) (hf : fJ7_fill_d0a16 q1 n_p0 g_p0 = some v_p0) : CtV l yJ7_fill_d0a16 wsJ7_fill_d0a16 rmJ7_fill_d0a16 D (tyz cI cL cC cZ) [.ref a_p0, .long q1] [(a_p0, .inl (cL, n_p0, .inr (.inl g_p0)))] [(a_p0, .inl (cL, n_p0, .inr (.inl v_p0)))] := by
  refine CtV.make (cc := cJ7_fill_d0a16) (maxL := 5) (by decide) rfl (Nat.le_of_ble_eq_true rfl) ?_
  intro p e s m below meth c A ls C0 hN hA hP hD hl
  obtain ⟨hx, hb, hr, hml, hown, hts, hlk⟩ := id C0
  have hown : s.vm.findClass RJ7 = some m.cls := hown
  have hS : va_S A s.heap s.heap [] := va_S.rf
  have hP : va_P D vwCl [(a_p0, .inl (cL, n_p0, .inr (.inl g_p0)))] s.heap := hP
  have hD : va_D A [(a_p0, .inl (cL, n_p0, .inr (.inl g_p0)))] := hD
  have hl : lv_has ls 5 [(0, .ref a_p0), (1, .long q1)] := hl
  have w6 : ∀ (x1 : Int64) (x4 : Int32) (x3 : Int32) (g_p0 : Nat → Int64) (t : Nat → Int64) (H : Heap) (locs : List Loc) (ls : Array Slot), run (sJ7_fill_d0a16_6 x1 x4 n_p0) ((x3, g_p0)) = some t → (fun z => z = v_p0) t → va_P D vwCl [(a_p0, .inl (cL, n_p0, .inr (.inl g_p0)))] H → va_D A [(a_p0, .inl (cL, n_p0, .inr (.inl g_p0)))] → va_S A s.heap H locs → lv_has ls 5 [(0, .ref a_p0), (1, .long x1), (3, .int x3), (4, .int x4)] → W p l e rmJ7_fill_d0a16 s m ([.ref a_p0, .long q1] : List Value).toArray below meth c H locs 0 0 (MQ below (cQv D A [(a_p0, .inl (cL, n_p0, .inr (.inl v_p0)))]) ([.ref a_p0, .long q1] : List Value).toArray s 0 0 A) (F0 m 6 ls []) := by
    intro x1 x4
    obtain ⟨F6, eF6⟩ : ∃ F : (Int32 × (Nat → Int64)) → Prop, F = fun q => ∀ (H : Heap) (locs : List Loc) (ls : Array Slot), va_P D vwCl [(a_p0, .inl (cL, n_p0, .inr (.inl q.2)))] H → va_D A [(a_p0, .inl (cL, n_p0, .inr (.inl q.2)))] → va_S A s.heap H locs → lv_has ls 5 [(0, .ref a_p0), (1, .long x1), (3, .int q.1), (4, .int x4)] → W p l e rmJ7_fill_d0a16 s m ([.ref a_p0, .long q1] : List Value).toArray below meth c H locs 0 0 (MQ below (cQv D A [(a_p0, .inl (cL, n_p0, .inr (.inl v_p0)))]) ([.ref a_p0, .long q1] : List Value).toArray s 0 0 A) (F0 m 6 ls []) := ⟨_, rfl⟩
    have key : ∀ (q : Int32 × (Nat → Int64)) (t : Nat → Int64), run (sJ7_fill_d0a16_6 x1 x4 n_p0) q = some t → (fun z => z = v_p0) t → F6 q := by
      refine loop_rule (sJ7_fill_d0a16_6 x1 x4 n_p0) F6 (fun z => z = v_p0) ?_
      intro q t hf hF
      have hF : (Sum.elim F6 (fun z => z = v_p0)) t := hF
      rw [eF6]
      obtain ⟨x3, g_p0⟩ := q
      intro H locs ls hP hD hS hl
      have hP : va_P D vwCl [(a_p0, .inl (cL, n_p0, .inr (.inl g_p0)))] H := hP
      have hD : va_D A [(a_p0, .inl (cL, n_p0, .inr (.inl g_p0)))] := hD
      have hl : lv_has ls 5 [(0, .ref a_p0), (1, .long x1), (3, .int x3), (4, .int x4)] := hl
      have hf : bJ7_fill_d0a16_6 n_p0 x1 x4 x3 g_p0 = some t := hf
      unfold bJ7_fill_d0a16_6 at hf
      refine lv_iload_n hx hb dJ7_fill_d0a16_6 rfl (lv_at hl 2 rfl) ?_
      refine lv_iload hx hb dJ7_fill_d0a16_7 (lv_at hl 3 rfl) ?_
      refine lv_icmp_ge (tgt := 22) hx hb dJ7_fill_d0a16_9 (by decide) (fun c1 => ?_) (fun c1 => ?_)
      · have hf := br_pos c1 hf
        cases hf
        have hE : g_p0 = v_p0 := hF
        subst hE
        exact rtV hx hb hr hlk hP hD hS dJ7_fill_d0a16_22
      · have hf := br_neg c1 hf
        refine lv_aload_n hx hb dJ7_fill_d0a16_12 rfl (lv_at hl 0 rfl) ?_
        refine lv_iload_n hx hb dJ7_fill_d0a16_13 rfl (lv_at hl 2 rfl) ?_
        refine lv_lload_n hx hb dJ7_fill_d0a16_14 rfl (lv_at hl 1 rfl) ?_
        obtain ⟨c2, hf⟩ := gd_some hf
        refine va_last hx hb hN.1 hP hD hS 0 1 rfl rfl (ix_in c2) dJ7_fill_d0a16_15 (fun H locs hP hD hS => ?_)
        obtain ⟨y3, ey3⟩ : ∃ z, z = vp_updL g_p0 x3.toNatClampNeg x1 := ⟨_, rfl⟩
        have hf := lt_some hf y3 ey3
        have hP : va_P D vwCl [(a_p0, .inl (cL, n_p0, .inr (.inl y3)))] H := by rw [ey3]; exact hP
        have hD : va_D A [(a_p0, .inl (cL, n_p0, .inr (.inl y3)))] := by rw [ey3]; exact hD
        obtain ⟨y4, ey4⟩ : ∃ z : Int32, z = x3 + (1 : Int32) := ⟨_, rfl⟩
        have hf := lt_some hf y4 ey4
        refine lv_iinc (v := y4) (lv' := [(3, .int y4), (0, .ref a_p0), (1, .long x1), (4, .int x4)]) hx hb dJ7_fill_d0a16_16 hl (k := 2) rfl (by rw [ey4]; rfl) (by decide) rfl (fun ls hl => ?_)
        refine lv_goto (tgt := 6) hx hb dJ7_fill_d0a16_19 (by decide) ?_
        cases hf
        exact ((congrFun eF6 _).mp hF) H locs ls hP hD hS (lv_sub hl [1, 2, 0, 3] rfl)
    intro x3 g_p0 t H locs ls hf hF hP hD hS hl
    exact ((congrFun eF6 _).mp (key ((x3, g_p0)) t hf hF)) H locs ls hP hD hS hl
  unfold fJ7_fill_d0a16 at hf
  obtain ⟨H, eH⟩ : ∃ z, z = s.heap := ⟨_, rfl⟩
  obtain ⟨locs, eL⟩ : ∃ z : List Loc, z = [] := ⟨_, rfl⟩
  have hP : va_P D vwCl [(a_p0, .inl (cL, n_p0, .inr (.inl g_p0)))] H := by rw [eH]; exact hP
  have hS : va_S A s.heap H locs := by rw [eH, eL]; exact hS
  suffices hG : W p l e rmJ7_fill_d0a16 s m ([.ref a_p0, .long q1] : List Value).toArray below meth c H locs 0 0 (MQ below (cQv D A [(a_p0, .inl (cL, n_p0, .inr (.inl v_p0)))]) ([.ref a_p0, .long q1] : List Value).toArray s 0 0 A) (F0 m 0 ls []) by rw [eH, eL] at hG; exact hG
  refine lv_iconst (v := 0) hx hb dJ7_fill_d0a16_0 (by decide) ?_
  refine lv_istore_n (lv' := [(3, .int (0 : Int32)), (0, .ref a_p0), (1, .long q1)]) hx hb dJ7_fill_d0a16_1 rfl hl (by decide) rfl (fun ls hl => ?_)
  refine lv_aload_n hx hb dJ7_fill_d0a16_2 rfl (lv_at hl 1 rfl) ?_
  refine va_alen (v := Int32.ofNat n_p0) hx hb hN.1 hP 0 1 rfl rfl rfl dJ7_fill_d0a16_3 ?_
  refine lv_topi (fun y5 ey5 => ?_)
  have hf := lt_some hf y5 ey5
  refine lv_istore (lv' := [(4, .int y5), (3, .int (0 : Int32)), (0, .ref a_p0), (1, .long q1)]) hx hb dJ7_fill_d0a16_4 hl (by decide) rfl (fun ls hl => ?_)
  exact w6 q1 y5 (0 : Int32) g_p0 v_p0 H locs ls hf rfl hP hD hS (lv_sub hl [2, 3, 1, 0] rfl)
abbrev rmJ6_bitCount_0f7a4 : Room := { frames := 0, cells := 0, slots := 0, locals := 0 }
noncomputable def fJ6_bitCount_0f7a4 (q0 : Int32) : Option (Int32) := lt_ (q0 - (((q0.toUInt32 >>> ((1 : Int32).toUInt32 &&& Int32.toUInt32 31)).toInt32) &&& (1431655765 : Int32))) (fun y1 => lt_ ((y1 &&& (858993459 : Int32)) + (((y1.toUInt32 >>> ((2 : Int32).toUInt32 &&& Int32.toUInt32 31)).toInt32) &&& (858993459 : Int32))) (fun y2 => lt_ ((y2 + ((y2.toUInt32 >>> ((4 : Int32).toUInt32 &&& Int32.toUInt32 31)).toInt32)) &&& (252645135 : Int32)) (fun y3 => lt_ (y3 + ((y3.toUInt32 >>> ((8 : Int32).toUInt32 &&& Int32.toUInt32 31)).toInt32)) (fun y4 => lt_ (y4 + ((y4.toUInt32 >>> ((16 : Int32).toUInt32 &&& Int32.toUInt32 31)).toInt32)) (fun y5 => some (y5 &&& (63 : Int32)))))))
set_option maxHeartbeats 4000000 in
set_option maxRecDepth 100000 in
theorem cJ6_bitCount_0f7a4_ct (l : Launch) (D : va_G) (cI cL cC cZ : ClassId) (q0 : Int32) (r0 : Int32) (hf : fJ6_bitCount_0f7a4 q0 = some r0) : CtI l yJ6_bitCount_0f7a4 wsJ6_bitCount_0f7a4 rmJ6_bitCount_0f7a4 D (tyz cI cL cC cZ) [.int q0] [] [] r0 := by
  refine CtI.make (cc := cJ6_bitCount_0f7a4) (maxL := 1) (ty := .int) (by decide) rfl (Nat.le_of_ble_eq_true rfl) ?_
  intro p e s m below meth c A ls C0 hN hA hP hD hl
  obtain ⟨hx, hb, hr, hml, hown, hts, hlk⟩ := id C0
  have hown : s.vm.findClass RJ6 = some m.cls := hown
  have hS : va_S A s.heap s.heap [] := va_S.rf
  have hP : va_P D vwCl [] s.heap := hP
  have hD : va_D A [] := hD
  have hl : lv_has ls 1 [(0, .int q0)] := hl
  have z1 := hts (.constant RJ6 265 (1431655765)) (by decide +kernel)
  have z2 := hts (.constant RJ6 266 (858993459)) (by decide +kernel)
  have z3 := hts (.constant RJ6 267 (252645135)) (by decide +kernel)
  unfold fJ6_bitCount_0f7a4 at hf
  obtain ⟨H, eH⟩ : ∃ z, z = s.heap := ⟨_, rfl⟩
  obtain ⟨locs, eL⟩ : ∃ z : List Loc, z = [] := ⟨_, rfl⟩
  have hP : va_P D vwCl [] H := by rw [eH]; exact hP
  have hS : va_S A s.heap H locs := by rw [eH, eL]; exact hS
  suffices hG : W p l e rmJ6_bitCount_0f7a4 s m ([.int q0] : List Value).toArray below meth c H locs 0 0 (MQ below (cQi D r0 A []) ([.int q0] : List Value).toArray s 0 0 A) (F0 m 0 ls []) by rw [eH, eL] at hG; exact hG
  refine lv_iload_n hx hb dJ6_bitCount_0f7a4_0 rfl (lv_at hl 0 rfl) ?_
  refine lv_iload_n hx hb dJ6_bitCount_0f7a4_1 rfl (lv_at hl 0 rfl) ?_
  refine lv_iconst (v := 1) hx hb dJ6_bitCount_0f7a4_2 (by decide) ?_
  refine lv_iushr hx hb dJ6_bitCount_0f7a4_3 rfl ?_
  refine lv_ldcw (v := 1431655765) hx hb hown z1 dJ6_bitCount_0f7a4_4 ?_
  refine lv_iand hx hb dJ6_bitCount_0f7a4_7 ?_
  refine lv_isub hx hb dJ6_bitCount_0f7a4_8 ?_
  refine lv_topi (fun y1 ey1 => ?_)
  have hf := lt_some hf y1 ey1
  refine lv_istore_n (lv' := [(0, .int y1)]) hx hb dJ6_bitCount_0f7a4_9 rfl hl (by decide) rfl (fun ls hl => ?_)
  refine lv_iload_n hx hb dJ6_bitCount_0f7a4_10 rfl (lv_at hl 0 rfl) ?_
  refine lv_ldcw (v := 858993459) hx hb hown z2 dJ6_bitCount_0f7a4_11 ?_
  refine lv_iand hx hb dJ6_bitCount_0f7a4_14 ?_
  refine lv_iload_n hx hb dJ6_bitCount_0f7a4_15 rfl (lv_at hl 0 rfl) ?_
  refine lv_iconst (v := 2) hx hb dJ6_bitCount_0f7a4_16 (by decide) ?_
  refine lv_iushr hx hb dJ6_bitCount_0f7a4_17 rfl ?_
  refine lv_ldcw (v := 858993459) hx hb hown z2 dJ6_bitCount_0f7a4_18 ?_
  refine lv_iand hx hb dJ6_bitCount_0f7a4_21 ?_
  refine lv_iadd hx hb dJ6_bitCount_0f7a4_22 ?_
  refine lv_topi (fun y2 ey2 => ?_)
  have hf := lt_some hf y2 ey2
  refine lv_istore_n (lv' := [(0, .int y2)]) hx hb dJ6_bitCount_0f7a4_23 rfl hl (by decide) rfl (fun ls hl => ?_)
  refine lv_iload_n hx hb dJ6_bitCount_0f7a4_24 rfl (lv_at hl 0 rfl) ?_
  refine lv_iload_n hx hb dJ6_bitCount_0f7a4_25 rfl (lv_at hl 0 rfl) ?_
  refine lv_iconst (v := 4) hx hb dJ6_bitCount_0f7a4_26 (by decide) ?_
  refine lv_iushr hx hb dJ6_bitCount_0f7a4_27 rfl ?_
  refine lv_iadd hx hb dJ6_bitCount_0f7a4_28 ?_
  refine lv_ldcw (v := 252645135) hx hb hown z3 dJ6_bitCount_0f7a4_29 ?_
  refine lv_iand hx hb dJ6_bitCount_0f7a4_32 ?_
  refine lv_topi (fun y3 ey3 => ?_)
  have hf := lt_some hf y3 ey3
  refine lv_istore_n (lv' := [(0, .int y3)]) hx hb dJ6_bitCount_0f7a4_33 rfl hl (by decide) rfl (fun ls hl => ?_)
  refine lv_iload_n hx hb dJ6_bitCount_0f7a4_34 rfl (lv_at hl 0 rfl) ?_
  refine lv_iload_n hx hb dJ6_bitCount_0f7a4_35 rfl (lv_at hl 0 rfl) ?_
  refine lv_bipush (v := 8) hx hb dJ6_bitCount_0f7a4_36 (by decide) ?_
  refine lv_iushr hx hb dJ6_bitCount_0f7a4_38 rfl ?_
  refine lv_iadd hx hb dJ6_bitCount_0f7a4_39 ?_
  refine lv_topi (fun y4 ey4 => ?_)
  have hf := lt_some hf y4 ey4
  refine lv_istore_n (lv' := [(0, .int y4)]) hx hb dJ6_bitCount_0f7a4_40 rfl hl (by decide) rfl (fun ls hl => ?_)
  refine lv_iload_n hx hb dJ6_bitCount_0f7a4_41 rfl (lv_at hl 0 rfl) ?_
  refine lv_iload_n hx hb dJ6_bitCount_0f7a4_42 rfl (lv_at hl 0 rfl) ?_
  refine lv_bipush (v := 16) hx hb dJ6_bitCount_0f7a4_43 (by decide) ?_
  refine lv_iushr hx hb dJ6_bitCount_0f7a4_45 rfl ?_
  refine lv_iadd hx hb dJ6_bitCount_0f7a4_46 ?_
  refine lv_topi (fun y5 ey5 => ?_)
  have hf := lt_some hf y5 ey5
  refine lv_istore_n (lv' := [(0, .int y5)]) hx hb dJ6_bitCount_0f7a4_47 rfl hl (by decide) rfl (fun ls hl => ?_)
  refine lv_iload_n hx hb dJ6_bitCount_0f7a4_48 rfl (lv_at hl 0 rfl) ?_
  refine lv_bipush (v := 63) hx hb dJ6_bitCount_0f7a4_49 (by decide) ?_
  refine lv_iand hx hb dJ6_bitCount_0f7a4_51 ?_
  have hE : y5 &&& (63 : Int32) = r0 := Option.some.inj hf
  subst hE
  exact rtI hx hb hr hlk hP hD hS dJ6_bitCount_0f7a4_52
abbrev rmJ13_reverseBytes_067f4 : Room := { frames := 0, cells := 0, slots := 0, locals := 0 }
noncomputable def fJ13_reverseBytes_067f4 (q0 : Int64) : Option (Int64) := lt_ (((q0 &&& (71777214294589695 : Int64)) <<< ((8 : Int32).toInt64 &&& 63)) ||| (((q0.toUInt64 >>> ((8 : Int32).toInt64.toUInt64 &&& Int64.toUInt64 63)).toInt64) &&& (71777214294589695 : Int64))) (fun y1 => some ((((y1 <<< ((48 : Int32).toInt64 &&& 63)) ||| ((y1 &&& (4294901760 : Int64)) <<< ((16 : Int32).toInt64 &&& 63))) ||| (((y1.toUInt64 >>> ((16 : Int32).toInt64.toUInt64 &&& Int64.toUInt64 63)).toInt64) &&& (4294901760 : Int64))) ||| ((y1.toUInt64 >>> ((48 : Int32).toInt64.toUInt64 &&& Int64.toUInt64 63)).toInt64)))
set_option maxHeartbeats 4000000 in
set_option maxRecDepth 100000 in
theorem cJ13_reverseBytes_067f4_ct (l : Launch) (D : va_G) (cI cL cC cZ : ClassId) (q0 : Int64) (r0 : Int64) (hf : fJ13_reverseBytes_067f4 q0 = some r0) : CtL l yJ13_reverseBytes_067f4 wsJ13_reverseBytes_067f4 rmJ13_reverseBytes_067f4 D (tyz cI cL cC cZ) [.long q0] [] [] r0 := by
  refine CtL.make (cc := cJ13_reverseBytes_067f4) (maxL := 2) (ty := .long) (by decide) rfl (Nat.le_of_ble_eq_true rfl) ?_
  intro p e s m below meth c A ls C0 hN hA hP hD hl
  obtain ⟨hx, hb, hr, hml, hown, hts, hlk⟩ := id C0
  have hown : s.vm.findClass RJ13 = some m.cls := hown
  have hS : va_S A s.heap s.heap [] := va_S.rf
  have hP : va_P D vwCl [] s.heap := hP
  have hD : va_D A [] := hD
  have hl : lv_has ls 2 [(0, .long q0)] := hl
  have z1 := hts (.constantLong RJ13 327 (71777214294589695)) (by decide +kernel)
  have z2 := hts (.constantLong RJ13 329 (4294901760)) (by decide +kernel)
  unfold fJ13_reverseBytes_067f4 at hf
  obtain ⟨H, eH⟩ : ∃ z, z = s.heap := ⟨_, rfl⟩
  obtain ⟨locs, eL⟩ : ∃ z : List Loc, z = [] := ⟨_, rfl⟩
  have hP : va_P D vwCl [] H := by rw [eH]; exact hP
  have hS : va_S A s.heap H locs := by rw [eH, eL]; exact hS
  suffices hG : W p l e rmJ13_reverseBytes_067f4 s m ([.long q0] : List Value).toArray below meth c H locs 0 0 (MQ below (cQl D r0 A []) ([.long q0] : List Value).toArray s 0 0 A) (F0 m 0 ls []) by rw [eH, eL] at hG; exact hG
  refine lv_lload_n hx hb dJ13_reverseBytes_067f4_0 rfl (lv_at hl 0 rfl) ?_
  refine lv_ldc2 (v := 71777214294589695) hx hb hown z1 dJ13_reverseBytes_067f4_1 ?_
  refine lv_land hx hb dJ13_reverseBytes_067f4_4 ?_
  refine lv_bipush (v := 8) hx hb dJ13_reverseBytes_067f4_5 (by decide) ?_
  refine lv_lshl hx hb dJ13_reverseBytes_067f4_7 rfl ?_
  refine lv_lload_n hx hb dJ13_reverseBytes_067f4_8 rfl (lv_at hl 0 rfl) ?_
  refine lv_bipush (v := 8) hx hb dJ13_reverseBytes_067f4_9 (by decide) ?_
  refine lv_lushr hx hb dJ13_reverseBytes_067f4_11 rfl ?_
  refine lv_ldc2 (v := 71777214294589695) hx hb hown z1 dJ13_reverseBytes_067f4_12 ?_
  refine lv_land hx hb dJ13_reverseBytes_067f4_15 ?_
  refine lv_lor hx hb dJ13_reverseBytes_067f4_16 ?_
  refine lv_topl (fun y1 ey1 => ?_)
  have hf := lt_some hf y1 ey1
  refine lv_lstore_n (lv' := [(0, .long y1)]) hx hb dJ13_reverseBytes_067f4_17 rfl hl (by decide) rfl (fun ls hl => ?_)
  refine lv_lload_n hx hb dJ13_reverseBytes_067f4_18 rfl (lv_at hl 0 rfl) ?_
  refine lv_bipush (v := 48) hx hb dJ13_reverseBytes_067f4_19 (by decide) ?_
  refine lv_lshl hx hb dJ13_reverseBytes_067f4_21 rfl ?_
  refine lv_lload_n hx hb dJ13_reverseBytes_067f4_22 rfl (lv_at hl 0 rfl) ?_
  refine lv_ldc2 (v := 4294901760) hx hb hown z2 dJ13_reverseBytes_067f4_23 ?_
  refine lv_land hx hb dJ13_reverseBytes_067f4_26 ?_
  refine lv_bipush (v := 16) hx hb dJ13_reverseBytes_067f4_27 (by decide) ?_
  refine lv_lshl hx hb dJ13_reverseBytes_067f4_29 rfl ?_
  refine lv_lor hx hb dJ13_reverseBytes_067f4_30 ?_
  refine lv_lload_n hx hb dJ13_reverseBytes_067f4_31 rfl (lv_at hl 0 rfl) ?_
  refine lv_bipush (v := 16) hx hb dJ13_reverseBytes_067f4_32 (by decide) ?_
  refine lv_lushr hx hb dJ13_reverseBytes_067f4_34 rfl ?_
  refine lv_ldc2 (v := 4294901760) hx hb hown z2 dJ13_reverseBytes_067f4_35 ?_
  refine lv_land hx hb dJ13_reverseBytes_067f4_38 ?_
  refine lv_lor hx hb dJ13_reverseBytes_067f4_39 ?_
  refine lv_lload_n hx hb dJ13_reverseBytes_067f4_40 rfl (lv_at hl 0 rfl) ?_
  refine lv_bipush (v := 48) hx hb dJ13_reverseBytes_067f4_41 (by decide) ?_
  refine lv_lushr hx hb dJ13_reverseBytes_067f4_43 rfl ?_
  refine lv_lor hx hb dJ13_reverseBytes_067f4_44 ?_
  have hE : (((y1 <<< ((48 : Int32).toInt64 &&& 63)) ||| ((y1 &&& (4294901760 : Int64)) <<< ((16 : Int32).toInt64 &&& 63))) ||| (((y1.toUInt64 >>> ((16 : Int32).toInt64.toUInt64 &&& Int64.toUInt64 63)).toInt64) &&& (4294901760 : Int64))) ||| ((y1.toUInt64 >>> ((48 : Int32).toInt64.toUInt64 &&& Int64.toUInt64 63)).toInt64) = r0 := Option.some.inj hf
  subst hE
  exact rtL hx hb hr hlk hP hD hS dJ13_reverseBytes_067f4_45
abbrev rmJ13_reverse_067f4 : Room := { frames := 1, cells := 0, slots := 0, locals := 21 }
noncomputable def fJ13_reverse_067f4 (q0 : Int64) : Option (Int64) := lt_ (((q0 &&& (6148914691236517205 : Int64)) <<< ((1 : Int32).toInt64 &&& 63)) ||| (((q0.toUInt64 >>> ((1 : Int32).toInt64.toUInt64 &&& Int64.toUInt64 63)).toInt64) &&& (6148914691236517205 : Int64))) (fun y1 => lt_ (((y1 &&& (3689348814741910323 : Int64)) <<< ((2 : Int32).toInt64 &&& 63)) ||| (((y1.toUInt64 >>> ((2 : Int32).toInt64.toUInt64 &&& Int64.toUInt64 63)).toInt64) &&& (3689348814741910323 : Int64))) (fun y2 => lt_ (((y2 &&& (1085102592571150095 : Int64)) <<< ((4 : Int32).toInt64 &&& 63)) ||| (((y2.toUInt64 >>> ((4 : Int32).toInt64.toUInt64 &&& Int64.toUInt64 63)).toInt64) &&& (1085102592571150095 : Int64))) (fun y3 => bd (fJ13_reverseBytes_067f4 y3) (fun u4 => some (u4)))))
set_option maxHeartbeats 4000000 in
set_option maxRecDepth 100000 in
theorem cJ13_reverse_067f4_ct (l : Launch) (D : va_G) (cI cL cC cZ : ClassId) (q0 : Int64) (r0 : Int64) (hf : fJ13_reverse_067f4 q0 = some r0) : CtL l yJ13_reverse_067f4 wsJ13_reverse_067f4 rmJ13_reverse_067f4 D (tyz cI cL cC cZ) [.long q0] [] [] r0 := by
  refine CtL.make (cc := cJ13_reverse_067f4) (maxL := 2) (ty := .long) (by decide) rfl (Nat.le_of_ble_eq_true rfl) ?_
  intro p e s m below meth c A ls C0 hN hA hP hD hl
  obtain ⟨hx, hb, hr, hml, hown, hts, hlk⟩ := id C0
  have hown : s.vm.findClass RJ13 = some m.cls := hown
  have hS : va_S A s.heap s.heap [] := va_S.rf
  have hP : va_P D vwCl [] s.heap := hP
  have hD : va_D A [] := hD
  have hl : lv_has ls 2 [(0, .long q0)] := hl
  have z1 := hts (.constantLong RJ13 314 (6148914691236517205)) (by decide +kernel)
  have z2 := hts (.constantLong RJ13 316 (3689348814741910323)) (by decide +kernel)
  have z3 := hts (.constantLong RJ13 318 (1085102592571150095)) (by decide +kernel)
  have z4 := va_cwS (R := rmJ13_reverse_067f4) (rm := rmJ13_reverseBytes_067f4) (mc := 0) (ms := 0) 1 hts gJ13_reverse_067f4_J13_reverseBytes_067f4 rfl rfl rfl (by decide +kernel) ⟨Nat.le_of_ble_eq_true rfl, Nat.le_of_ble_eq_true rfl⟩
  unfold fJ13_reverse_067f4 at hf
  obtain ⟨H, eH⟩ : ∃ z, z = s.heap := ⟨_, rfl⟩
  obtain ⟨locs, eL⟩ : ∃ z : List Loc, z = [] := ⟨_, rfl⟩
  have hP : va_P D vwCl [] H := by rw [eH]; exact hP
  have hS : va_S A s.heap H locs := by rw [eH, eL]; exact hS
  suffices hG : W p l e rmJ13_reverse_067f4 s m ([.long q0] : List Value).toArray below meth c H locs 0 0 (MQ below (cQl D r0 A []) ([.long q0] : List Value).toArray s 0 0 A) (F0 m 0 ls []) by rw [eH, eL] at hG; exact hG
  refine lv_lload_n hx hb dJ13_reverse_067f4_0 rfl (lv_at hl 0 rfl) ?_
  refine lv_ldc2 (v := 6148914691236517205) hx hb hown z1 dJ13_reverse_067f4_1 ?_
  refine lv_land hx hb dJ13_reverse_067f4_4 ?_
  refine lv_iconst (v := 1) hx hb dJ13_reverse_067f4_5 (by decide) ?_
  refine lv_lshl hx hb dJ13_reverse_067f4_6 rfl ?_
  refine lv_lload_n hx hb dJ13_reverse_067f4_7 rfl (lv_at hl 0 rfl) ?_
  refine lv_iconst (v := 1) hx hb dJ13_reverse_067f4_8 (by decide) ?_
  refine lv_lushr hx hb dJ13_reverse_067f4_9 rfl ?_
  refine lv_ldc2 (v := 6148914691236517205) hx hb hown z1 dJ13_reverse_067f4_10 ?_
  refine lv_land hx hb dJ13_reverse_067f4_13 ?_
  refine lv_lor hx hb dJ13_reverse_067f4_14 ?_
  refine lv_topl (fun y1 ey1 => ?_)
  have hf := lt_some hf y1 ey1
  refine lv_lstore_n (lv' := [(0, .long y1)]) hx hb dJ13_reverse_067f4_15 rfl hl (by decide) rfl (fun ls hl => ?_)
  refine lv_lload_n hx hb dJ13_reverse_067f4_16 rfl (lv_at hl 0 rfl) ?_
  refine lv_ldc2 (v := 3689348814741910323) hx hb hown z2 dJ13_reverse_067f4_17 ?_
  refine lv_land hx hb dJ13_reverse_067f4_20 ?_
  refine lv_iconst (v := 2) hx hb dJ13_reverse_067f4_21 (by decide) ?_
  refine lv_lshl hx hb dJ13_reverse_067f4_22 rfl ?_
  refine lv_lload_n hx hb dJ13_reverse_067f4_23 rfl (lv_at hl 0 rfl) ?_
  refine lv_iconst (v := 2) hx hb dJ13_reverse_067f4_24 (by decide) ?_
  refine lv_lushr hx hb dJ13_reverse_067f4_25 rfl ?_
  refine lv_ldc2 (v := 3689348814741910323) hx hb hown z2 dJ13_reverse_067f4_26 ?_
  refine lv_land hx hb dJ13_reverse_067f4_29 ?_
  refine lv_lor hx hb dJ13_reverse_067f4_30 ?_
  refine lv_topl (fun y2 ey2 => ?_)
  have hf := lt_some hf y2 ey2
  refine lv_lstore_n (lv' := [(0, .long y2)]) hx hb dJ13_reverse_067f4_31 rfl hl (by decide) rfl (fun ls hl => ?_)
  refine lv_lload_n hx hb dJ13_reverse_067f4_32 rfl (lv_at hl 0 rfl) ?_
  refine lv_ldc2 (v := 1085102592571150095) hx hb hown z3 dJ13_reverse_067f4_33 ?_
  refine lv_land hx hb dJ13_reverse_067f4_36 ?_
  refine lv_iconst (v := 4) hx hb dJ13_reverse_067f4_37 (by decide) ?_
  refine lv_lshl hx hb dJ13_reverse_067f4_38 rfl ?_
  refine lv_lload_n hx hb dJ13_reverse_067f4_39 rfl (lv_at hl 0 rfl) ?_
  refine lv_iconst (v := 4) hx hb dJ13_reverse_067f4_40 (by decide) ?_
  refine lv_lushr hx hb dJ13_reverse_067f4_41 rfl ?_
  refine lv_ldc2 (v := 1085102592571150095) hx hb hown z3 dJ13_reverse_067f4_42 ?_
  refine lv_land hx hb dJ13_reverse_067f4_45 ?_
  refine lv_lor hx hb dJ13_reverse_067f4_46 ?_
  refine lv_topl (fun y3 ey3 => ?_)
  have hf := lt_some hf y3 ey3
  refine lv_lstore_n (lv' := [(0, .long y3)]) hx hb dJ13_reverse_067f4_47 rfl hl (by decide) rfl (fun ls hl => ?_)
  refine lv_lload_n hx hb dJ13_reverse_067f4_48 rfl (lv_at hl 0 rfl) ?_
  obtain ⟨u4, hu4, hf⟩ := bd_some hf
  refine caSL (rest := []) (As := [.long y3]) (wr := []) (wo := []) ⟨hx, hb, hml, hown, hts⟩ hN hP hD hS hA (cJ13_reverseBytes_067f4_ct l D cI cL cC cZ y3 u4 hu4) z4 [] [] [] rfl (by decide) rfl (by decide) (by decide) rfl (by decide) rfl hl.1 rfl (Nat.le_of_ble_eq_true rfl) dJ13_reverse_067f4_49 ⟨Nat.zero_le _, Nat.zero_le _⟩ (fun H locs hP hD hS => ?_)
  have hE : u4 = r0 := Option.some.inj hf
  subst hE
  exact rtL hx hb hr hlk hP hD hS dJ13_reverse_067f4_52
