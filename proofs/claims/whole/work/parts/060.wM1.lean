abbrev rmX8_in : Room := { frames := 0, cells := 0, slots := 0, locals := 0 }
noncomputable def bX8_in_17 : Option (Int32) := gd ((0 : Int32) = 0 ∨ (0 : Int32) = 1) (some ((0 : Int32)))
noncomputable def fX8_in (q0 : Int64) (q2 : Int64) (q4 : Int64) : Option (Int32) := br ((lg_cmp q0 q2) < 0) (bX8_in_17) (br (0 < (lg_cmp q0 q4)) (bX8_in_17) (gd ((1 : Int32) = 0 ∨ (1 : Int32) = 1) (some ((1 : Int32)))))
set_option maxHeartbeats 4000000 in
set_option maxRecDepth 100000 in
theorem cX8_in_ct (l : Launch) (D : va_G) (cI cL cC cZ : ClassId) (q0 : Int64) (q2 : Int64) (q4 : Int64) (r0 : Int32) (hf : fX8_in q0 q2 q4 = some r0) : CtI l yX8_in wsX8_in rmX8_in D (tyz cI cL cC cZ) [.long q0, .long q2, .long q4] [] [] r0 := by
  refine CtI.make (cc := cX8_in) (maxL := 6) (ty := .boolean) (by decide) rfl (Nat.le_of_ble_eq_true rfl) ?_
  intro p e s m below meth c A ls C0 hN hA hP hD hl
  obtain ⟨hx, hb, hr, hml, hown, hts, hlk⟩ := id C0
  have hown : s.vm.findClass RX8 = some m.cls := hown
  have hS : va_S A s.heap s.heap [] := va_S.rf
  have hP : va_P D vwCl [] s.heap := hP
  have hD : va_D A [] := hD
  have hl : lv_has ls 6 [(0, .long q0), (2, .long q2), (4, .long q4)] := hl
  have w17 : ∀ (H : Heap) (locs : List Loc) (ls : Array Slot), bX8_in_17 = some r0 → va_P D vwCl [] H → va_D A [] → va_S A s.heap H locs → lv_has ls 6 [] → W p l e rmX8_in s m ([.long q0, .long q2, .long q4] : List Value).toArray below meth c H locs 0 0 (MQ below (cQi D r0 A []) ([.long q0, .long q2, .long q4] : List Value).toArray s 0 0 A) (F0 m 17 ls []) := by
    intro  H locs ls hf hP hD hS hl
    unfold bX8_in_17 at hf
    refine lv_iconst (v := 0) hx hb dX8_in_17 (by decide) ?_
    obtain ⟨c1, hf⟩ := gd_some hf
    have hE : (0 : Int32) = r0 := Option.some.inj hf
    subst hE
    exact rtZ hx hb hr hlk c1 hP hD hS dX8_in_18
  unfold fX8_in at hf
  obtain ⟨H, eH⟩ : ∃ z, z = s.heap := ⟨_, rfl⟩
  obtain ⟨locs, eL⟩ : ∃ z : List Loc, z = [] := ⟨_, rfl⟩
  have hP : va_P D vwCl [] H := by rw [eH]; exact hP
  have hS : va_S A s.heap H locs := by rw [eH, eL]; exact hS
  suffices hG : W p l e rmX8_in s m ([.long q0, .long q2, .long q4] : List Value).toArray below meth c H locs 0 0 (MQ below (cQi D r0 A []) ([.long q0, .long q2, .long q4] : List Value).toArray s 0 0 A) (F0 m 0 ls []) by rw [eH, eL] at hG; exact hG
  refine lv_lload_n hx hb dX8_in_0 rfl (lv_at hl 0 rfl) ?_
  refine lv_lload_n hx hb dX8_in_1 rfl (lv_at hl 1 rfl) ?_
  refine W.lcmp hx hb dX8_in_2 ?_
  refine lv_if_lt (tgt := 17) hx hb dX8_in_3 (by decide) (fun c2 => ?_) (fun c2 => ?_)
  · have hf := br_pos c2 hf
    exact w17  H locs ls hf hP hD hS (lv_sub hl [] rfl)
  · have hf := br_neg c2 hf
    refine lv_lload_n hx hb dX8_in_6 rfl (lv_at hl 0 rfl) ?_
    refine lv_lload hx hb dX8_in_7 (lv_at hl 2 rfl) ?_
    refine W.lcmp hx hb dX8_in_9 ?_
    refine lv_if_gt (tgt := 17) hx hb dX8_in_10 (by decide) (fun c3 => ?_) (fun c3 => ?_)
    · have hf := br_pos c3 hf
      exact w17  H locs ls hf hP hD hS (lv_sub hl [] rfl)
    · have hf := br_neg c3 hf
      refine lv_iconst (v := 1) hx hb dX8_in_13 (by decide) ?_
      refine lv_goto (tgt := 18) hx hb dX8_in_14 (by decide) ?_
      obtain ⟨c4, hf⟩ := gd_some hf
      have hE : (1 : Int32) = r0 := Option.some.inj hf
      subst hE
      exact rtZ hx hb hr hlk c4 hP hD hS dX8_in_18
abbrev rmX8_isSlot : Room := { frames := 1, cells := 0, slots := 0, locals := 25 }
noncomputable def fX8_isSlot (q0 : Int32) : Option (Int32) := bd (fX8_in q0.toInt64 (0 : Int64) (3 : Int64)) (fun u1 => gd (u1 = 0 ∨ u1 = 1) (some (u1)))
set_option maxHeartbeats 4000000 in
set_option maxRecDepth 100000 in
theorem cX8_isSlot_ct (l : Launch) (D : va_G) (cI cL cC cZ : ClassId) (q0 : Int32) (r0 : Int32) (hf : fX8_isSlot q0 = some r0) : CtI l yX8_isSlot wsX8_isSlot rmX8_isSlot D (tyz cI cL cC cZ) [.int q0] [] [] r0 := by
  refine CtI.make (cc := cX8_isSlot) (maxL := 1) (ty := .boolean) (by decide) rfl (Nat.le_of_ble_eq_true rfl) ?_
  intro p e s m below meth c A ls C0 hN hA hP hD hl
  obtain ⟨hx, hb, hr, hml, hown, hts, hlk⟩ := id C0
  have hown : s.vm.findClass RX8 = some m.cls := hown
  have hS : va_S A s.heap s.heap [] := va_S.rf
  have hP : va_P D vwCl [] s.heap := hP
  have hD : va_D A [] := hD
  have hl : lv_has ls 1 [(0, .int q0)] := hl
  have z1 := hts (.constantLong RX8 41 (3)) (by decide +kernel)
  have z2 := va_cwS (R := rmX8_isSlot) (rm := rmX8_in) (mc := 0) (ms := 0) 3 hts gX8_isSlot_X8_in rfl rfl rfl (by decide +kernel) ⟨Nat.le_of_ble_eq_true rfl, Nat.le_of_ble_eq_true rfl⟩
  unfold fX8_isSlot at hf
  obtain ⟨H, eH⟩ : ∃ z, z = s.heap := ⟨_, rfl⟩
  obtain ⟨locs, eL⟩ : ∃ z : List Loc, z = [] := ⟨_, rfl⟩
  have hP : va_P D vwCl [] H := by rw [eH]; exact hP
  have hS : va_S A s.heap H locs := by rw [eH, eL]; exact hS
  suffices hG : W p l e rmX8_isSlot s m ([.int q0] : List Value).toArray below meth c H locs 0 0 (MQ below (cQi D r0 A []) ([.int q0] : List Value).toArray s 0 0 A) (F0 m 0 ls []) by rw [eH, eL] at hG; exact hG
  refine lv_iload_n hx hb dX8_isSlot_0 rfl (lv_at hl 0 rfl) ?_
  refine lv_i2l hx hb dX8_isSlot_1 rfl ?_
  refine lv_lconst (v := 0) hx hb dX8_isSlot_2 (by decide) ?_
  refine lv_ldc2 (v := 3) hx hb hown z1 dX8_isSlot_3 ?_
  obtain ⟨u1, hu1, hf⟩ := bd_some hf
  refine caSI (rest := []) (As := [.long q0.toInt64, .long (0 : Int64), .long (3 : Int64)]) (wr := []) (wo := []) ⟨hx, hb, hml, hown, hts⟩ hN hP hD hS hA (cX8_in_ct l D cI cL cC cZ q0.toInt64 (0 : Int64) (3 : Int64) u1 hu1) z2 [] [] [] rfl (by decide) rfl (by decide) (by decide) rfl (by decide) rfl hl.1 rfl (Nat.le_of_ble_eq_true rfl) dX8_isSlot_6 ⟨Nat.zero_le _, Nat.zero_le _⟩ (fun H locs hP hD hS => ?_)
  obtain ⟨c2, hf⟩ := gd_some hf
  have hE : u1 = r0 := Option.some.inj hf
  subst hE
  exact rtZ hx hb hr hlk c2 hP hD hS dX8_isSlot_9
abbrev rmX8_write : Room := { frames := 1, cells := 0, slots := 0, locals := 25 }
noncomputable def fX8_write (q1 : Int32) (g_length : Int32) (g_text : Nat → Int32) : Option (Int32 × Int32 × (Nat → Int32)) := bd (fX8_in q1.toInt64 (32 : Int64) (126 : Int64)) (fun u1 => br (u1 = 0) (some (((-1 : Int32), g_length, g_text))) (br (g_length = (200 : Int32)) (some (((-3 : Int32), g_length, g_text))) (gd (¬ g_length < 0 ∧ g_length.toNatClampNeg < 200) (lt_ (upd g_text g_length.toNatClampNeg q1) (fun y5 => lt_ (g_length + (1 : Int32)) (fun y6 => some ((y6, y6, y5))))))))
set_option maxHeartbeats 4000000 in
set_option maxRecDepth 100000 in
theorem cX8_write_ct (l : Launch) (D : va_G) (cI cL cC cZ : ClassId) (a_this a_text a_now a_before a_read a_first a_second a_sums a_other a_grid a_order : Nat) (g_length : Int32) (g_undoMany : Int32) (g_spot : Int32) (g_step : Int32) (g_coverMany : Int32) (g_leastSums : Int32) (g_leastPart : Int32) (g_text : Nat → Int32) (q1 : Int32) (r0 : Int32) (v_length : Int32) (v_text : Nat → Int32) (hf : fX8_write q1 g_length g_text = some ((r0, v_length, v_text))) : CtI l yX8_write wsX8_write rmX8_write D (tyz cI cL cC cZ) [.ref a_this, .int q1] [(a_this, .inr (8, [.int g_length, .ref a_text, .ref a_now, .ref a_before, .int g_undoMany, .ref a_read, .int g_spot, .ref a_first, .ref a_second, .ref a_sums, .ref a_other, .int g_step, .int g_coverMany, .ref a_grid, .ref a_order, .int g_leastSums, .int g_leastPart])), (a_text, .inl (cI, 200, .inl g_text))] [(a_this, .inr (8, [.int v_length, .ref a_text, .ref a_now, .ref a_before, .int g_undoMany, .ref a_read, .int g_spot, .ref a_first, .ref a_second, .ref a_sums, .ref a_other, .int g_step, .int g_coverMany, .ref a_grid, .ref a_order, .int g_leastSums, .int g_leastPart])), (a_text, .inl (cI, 200, .inl v_text))] r0 := by
  refine CtI.make (cc := cX8_write) (maxL := 2) (ty := .int) (by decide) rfl (Nat.le_of_ble_eq_true rfl) ?_
  intro p e s m below meth c A ls C0 hN hA hP hD hl
  obtain ⟨hx, hb, hr, hml, hown, hts, hlk⟩ := id C0
  have hown : s.vm.findClass RX8 = some m.cls := hown
  have hS : va_S A s.heap s.heap [] := va_S.rf
  have hP : va_P D vwCl [(a_this, .inr (8, [.int g_length, .ref a_text, .ref a_now, .ref a_before, .int g_undoMany, .ref a_read, .int g_spot, .ref a_first, .ref a_second, .ref a_sums, .ref a_other, .int g_step, .int g_coverMany, .ref a_grid, .ref a_order, .int g_leastSums, .int g_leastPart])), (a_text, .inl (cI, 200, .inl g_text))] s.heap := hP
  have hD : va_D A [(a_this, .inr (8, [.int g_length, .ref a_text, .ref a_now, .ref a_before, .int g_undoMany, .ref a_read, .int g_spot, .ref a_first, .ref a_second, .ref a_sums, .ref a_other, .int g_step, .int g_coverMany, .ref a_grid, .ref a_order, .int g_leastSums, .int g_leastPart])), (a_text, .inl (cI, 200, .inl g_text))] := hD
  have hl : lv_has ls 2 [(0, .ref a_this), (1, .int q1)] := hl
  have z1 := hts (.constantLong RX8 47 (32)) (by decide +kernel)
  have z2 := hts (.constantLong RX8 49 (126)) (by decide +kernel)
  have z3 := va_cwS (R := rmX8_write) (rm := rmX8_in) (mc := 0) (ms := 0) 3 hts gX8_write_X8_in rfl rfl rfl (by decide +kernel) ⟨Nat.le_of_ble_eq_true rfl, Nat.le_of_ble_eq_true rfl⟩
  have z4 : ∀ w ∈ u_ws RX8 TX8 17, w ∈ wsX8_write := by decide +kernel
  have z5 := hts (.fieldLink RX8 51 "LittleSumsModel" "length" "I") (by decide +kernel)
  have z6 := hts (.fieldLink RX8 7 "LittleSumsModel" "text" "[I") (by decide +kernel)
  unfold fX8_write at hf
  obtain ⟨H, eH⟩ : ∃ z, z = s.heap := ⟨_, rfl⟩
  obtain ⟨locs, eL⟩ : ∃ z : List Loc, z = [] := ⟨_, rfl⟩
  have hP : va_P D vwCl [(a_this, .inr (8, [.int g_length, .ref a_text, .ref a_now, .ref a_before, .int g_undoMany, .ref a_read, .int g_spot, .ref a_first, .ref a_second, .ref a_sums, .ref a_other, .int g_step, .int g_coverMany, .ref a_grid, .ref a_order, .int g_leastSums, .int g_leastPart])), (a_text, .inl (cI, 200, .inl g_text))] H := by rw [eH]; exact hP
  have hS : va_S A s.heap H locs := by rw [eH, eL]; exact hS
  suffices hG : W p l e rmX8_write s m ([.ref a_this, .int q1] : List Value).toArray below meth c H locs 0 0 (MQ below (cQi D r0 A [(a_this, .inr (8, [.int v_length, .ref a_text, .ref a_now, .ref a_before, .int g_undoMany, .ref a_read, .int g_spot, .ref a_first, .ref a_second, .ref a_sums, .ref a_other, .int g_step, .int g_coverMany, .ref a_grid, .ref a_order, .int g_leastSums, .int g_leastPart])), (a_text, .inl (cI, 200, .inl v_text))]) ([.ref a_this, .int q1] : List Value).toArray s 0 0 A) (F0 m 0 ls []) by rw [eH, eL] at hG; exact hG
  refine lv_iload_n hx hb dX8_write_0 rfl (lv_at hl 1 rfl) ?_
  refine lv_i2l hx hb dX8_write_1 rfl ?_
  refine lv_ldc2 (v := 32) hx hb hown z1 dX8_write_2 ?_
  refine lv_ldc2 (v := 126) hx hb hown z2 dX8_write_5 ?_
  obtain ⟨u1, hu1, hf⟩ := bd_some hf
  refine caSI (rest := []) (As := [.long q1.toInt64, .long (32 : Int64), .long (126 : Int64)]) (wr := [(a_this, .inr (8, [.int g_length, .ref a_text, .ref a_now, .ref a_before, .int g_undoMany, .ref a_read, .int g_spot, .ref a_first, .ref a_second, .ref a_sums, .ref a_other, .int g_step, .int g_coverMany, .ref a_grid, .ref a_order, .int g_leastSums, .int g_leastPart])), (a_text, .inl (cI, 200, .inl g_text))]) (wo := [(a_this, .inr (8, [.int g_length, .ref a_text, .ref a_now, .ref a_before, .int g_undoMany, .ref a_read, .int g_spot, .ref a_first, .ref a_second, .ref a_sums, .ref a_other, .int g_step, .int g_coverMany, .ref a_grid, .ref a_order, .int g_leastSums, .int g_leastPart])), (a_text, .inl (cI, 200, .inl g_text))]) ⟨hx, hb, hml, hown, hts⟩ hN hP hD hS hA (cX8_in_ct l D cI cL cC cZ q1.toInt64 (32 : Int64) (126 : Int64) u1 hu1) z3 [] [0, 1] [0, 1] rfl (by decide) rfl (by decide) (by decide) rfl (by decide) rfl hl.1 rfl (Nat.le_of_ble_eq_true rfl) dX8_write_8 ⟨Nat.zero_le _, Nat.zero_le _⟩ (fun H locs hP hD hS => ?_)
  refine lv_if_ne (tgt := 16) hx hb dX8_write_11 (by decide) (fun c2 => ?_) (fun c2 => ?_)
  · have hf := br_neg c2 hf
    refine lv_aload_n hx hb dX8_write_16 rfl (lv_at hl 0 rfl) ?_
    refine va_get (D := D) (ci := 8) (v := .int g_length) (C := RX8) (T := TX8) (N := 17) hx hb hts z4 hown hN.1 hP 0 rfl rfl 0 (by decide) z5 (fun _ h9 => h9) rfl dX8_write_17 ?_
    refine lv_sipush (v := 200) hx hb dX8_write_20 (by decide) ?_
    refine lv_icmp_ne (tgt := 29) hx hb dX8_write_23 (by decide) (fun c3 => ?_) (fun c3 => ?_)
    · have hf := br_neg c3 hf
      refine lv_aload_n hx hb dX8_write_29 rfl (lv_at hl 0 rfl) ?_
      refine va_get (D := D) (ci := 8) (v := .ref a_text) (C := RX8) (T := TX8) (N := 17) hx hb hts z4 hown hN.1 hP 0 rfl rfl 1 (by decide) z6 (fun _ h9 => h9) rfl dX8_write_30 ?_
      refine lv_aload_n hx hb dX8_write_33 rfl (lv_at hl 0 rfl) ?_
      refine va_get (D := D) (ci := 8) (v := .int g_length) (C := RX8) (T := TX8) (N := 17) hx hb hts z4 hown hN.1 hP 0 rfl rfl 0 (by decide) z5 (fun _ h9 => h9) rfl dX8_write_34 ?_
      refine lv_iload_n hx hb dX8_write_37 rfl (lv_at hl 1 rfl) ?_
      obtain ⟨c4, hf⟩ := gd_some hf
      refine va_iast hx hb hN.1 hP hD hS 1 0 rfl rfl (ix_in c4) dX8_write_38 (fun H locs hP hD hS => ?_)
      obtain ⟨y5, ey5⟩ : ∃ z, z = upd g_text g_length.toNatClampNeg q1 := ⟨_, rfl⟩
      have hf := lt_some hf y5 ey5
      have hP : va_P D vwCl [(a_this, .inr (8, [.int g_length, .ref a_text, .ref a_now, .ref a_before, .int g_undoMany, .ref a_read, .int g_spot, .ref a_first, .ref a_second, .ref a_sums, .ref a_other, .int g_step, .int g_coverMany, .ref a_grid, .ref a_order, .int g_leastSums, .int g_leastPart])), (a_text, .inl (cI, 200, .inl y5))] H := by rw [ey5]; exact hP
      have hD : va_D A [(a_this, .inr (8, [.int g_length, .ref a_text, .ref a_now, .ref a_before, .int g_undoMany, .ref a_read, .int g_spot, .ref a_first, .ref a_second, .ref a_sums, .ref a_other, .int g_step, .int g_coverMany, .ref a_grid, .ref a_order, .int g_leastSums, .int g_leastPart])), (a_text, .inl (cI, 200, .inl y5))] := by rw [ey5]; exact hD
      refine lv_aload_n hx hb dX8_write_39 rfl (lv_at hl 0 rfl) ?_
      refine lv_dup hx hb dX8_write_40 rfl ?_
      refine va_get (D := D) (ci := 8) (v := .int g_length) (C := RX8) (T := TX8) (N := 17) hx hb hts z4 hown hN.1 hP 0 rfl rfl 0 (by decide) z5 (fun _ h9 => h9) rfl dX8_write_41 ?_
      refine lv_iconst (v := 1) hx hb dX8_write_44 (by decide) ?_
      refine lv_iadd hx hb dX8_write_45 ?_
      refine lv_topi (fun y6 ey6 => ?_)
      have hf := lt_some hf y6 ey6
      refine va_put (D := D) (ci := 8) (v := .int y6) (ty := .int) (C := RX8) (T := TX8) (N := 17) hx hb hts z4 tyX8 tyX8_ok nmX8 hown hN.1 hP hD hS 0 rfl rfl 0 (by decide) z5 (fun _ h9 => h9) rfl (by decide +kernel) rfl rfl (Nat.le_of_ble_eq_true rfl) dX8_write_46 (fun H locs hP hD hS => ?_)
      have hP : va_P D vwCl [(a_this, .inr (8, [.int y6, .ref a_text, .ref a_now, .ref a_before, .int g_undoMany, .ref a_read, .int g_spot, .ref a_first, .ref a_second, .ref a_sums, .ref a_other, .int g_step, .int g_coverMany, .ref a_grid, .ref a_order, .int g_leastSums, .int g_leastPart])), (a_text, .inl (cI, 200, .inl y5))] H := hP
      have hD : va_D A [(a_this, .inr (8, [.int y6, .ref a_text, .ref a_now, .ref a_before, .int g_undoMany, .ref a_read, .int g_spot, .ref a_first, .ref a_second, .ref a_sums, .ref a_other, .int g_step, .int g_coverMany, .ref a_grid, .ref a_order, .int g_leastSums, .int g_leastPart])), (a_text, .inl (cI, 200, .inl y5))] := hD
      refine lv_aload_n hx hb dX8_write_49 rfl (lv_at hl 0 rfl) ?_
      refine va_get (D := D) (ci := 8) (v := .int y6) (C := RX8) (T := TX8) (N := 17) hx hb hts z4 hown hN.1 hP 0 rfl rfl 0 (by decide) z5 (fun _ h9 => h9) rfl dX8_write_50 ?_
      have hE : (y6, y6, y5) = (r0, v_length, v_text) := Option.some.inj hf
      simp only [Prod.mk.injEq] at hE
      obtain ⟨rfl, rfl, rfl⟩ := hE
      exact rtI hx hb hr hlk hP hD hS dX8_write_53
    · have hf := br_pos c3 hf
      refine lv_bipush (v := -3) hx hb dX8_write_26 (by decide) ?_
      have hE : ((-3 : Int32), g_length, g_text) = (r0, v_length, v_text) := Option.some.inj hf
      simp only [Prod.mk.injEq] at hE
      obtain ⟨rfl, rfl, rfl⟩ := hE
      exact rtI hx hb hr hlk hP hD hS dX8_write_28
  · have hf := br_pos c2 hf
    refine lv_iconst (v := -1) hx hb dX8_write_14 (by decide) ?_
    have hE : ((-1 : Int32), g_length, g_text) = (r0, v_length, v_text) := Option.some.inj hf
    simp only [Prod.mk.injEq] at hE
    obtain ⟨rfl, rfl, rfl⟩ := hE
    exact rtI hx hb hr hlk hP hD hS dX8_write_15
abbrev rmX8_wipe : Room := { frames := 0, cells := 0, slots := 0, locals := 0 }
noncomputable def fX8_wipe (g_length : Int32) : Option (Int32 × Int32) := some ((g_length, (0 : Int32)))
set_option maxHeartbeats 4000000 in
set_option maxRecDepth 100000 in
theorem cX8_wipe_ct (l : Launch) (D : va_G) (cI cL cC cZ : ClassId) (a_this a_text a_now a_before a_read a_first a_second a_sums a_other a_grid a_order : Nat) (g_length : Int32) (g_undoMany : Int32) (g_spot : Int32) (g_step : Int32) (g_coverMany : Int32) (g_leastSums : Int32) (g_leastPart : Int32) (r0 : Int32) (v_length : Int32) (hf : fX8_wipe g_length = some ((r0, v_length))) : CtI l yX8_wipe wsX8_wipe rmX8_wipe D (tyz cI cL cC cZ) [.ref a_this] [(a_this, .inr (8, [.int g_length, .ref a_text, .ref a_now, .ref a_before, .int g_undoMany, .ref a_read, .int g_spot, .ref a_first, .ref a_second, .ref a_sums, .ref a_other, .int g_step, .int g_coverMany, .ref a_grid, .ref a_order, .int g_leastSums, .int g_leastPart]))] [(a_this, .inr (8, [.int v_length, .ref a_text, .ref a_now, .ref a_before, .int g_undoMany, .ref a_read, .int g_spot, .ref a_first, .ref a_second, .ref a_sums, .ref a_other, .int g_step, .int g_coverMany, .ref a_grid, .ref a_order, .int g_leastSums, .int g_leastPart]))] r0 := by
  refine CtI.make (cc := cX8_wipe) (maxL := 2) (ty := .int) (by decide) rfl (Nat.le_of_ble_eq_true rfl) ?_
  intro p e s m below meth c A ls C0 hN hA hP hD hl
  obtain ⟨hx, hb, hr, hml, hown, hts, hlk⟩ := id C0
  have hown : s.vm.findClass RX8 = some m.cls := hown
  have hS : va_S A s.heap s.heap [] := va_S.rf
  have hP : va_P D vwCl [(a_this, .inr (8, [.int g_length, .ref a_text, .ref a_now, .ref a_before, .int g_undoMany, .ref a_read, .int g_spot, .ref a_first, .ref a_second, .ref a_sums, .ref a_other, .int g_step, .int g_coverMany, .ref a_grid, .ref a_order, .int g_leastSums, .int g_leastPart]))] s.heap := hP
  have hD : va_D A [(a_this, .inr (8, [.int g_length, .ref a_text, .ref a_now, .ref a_before, .int g_undoMany, .ref a_read, .int g_spot, .ref a_first, .ref a_second, .ref a_sums, .ref a_other, .int g_step, .int g_coverMany, .ref a_grid, .ref a_order, .int g_leastSums, .int g_leastPart]))] := hD
  have hl : lv_has ls 2 [(0, .ref a_this)] := hl
  have z1 : ∀ w ∈ u_ws RX8 TX8 17, w ∈ wsX8_wipe := by decide +kernel
  have z2 := hts (.fieldLink RX8 51 "LittleSumsModel" "length" "I") (by decide +kernel)
  unfold fX8_wipe at hf
  obtain ⟨H, eH⟩ : ∃ z, z = s.heap := ⟨_, rfl⟩
  obtain ⟨locs, eL⟩ : ∃ z : List Loc, z = [] := ⟨_, rfl⟩
  have hP : va_P D vwCl [(a_this, .inr (8, [.int g_length, .ref a_text, .ref a_now, .ref a_before, .int g_undoMany, .ref a_read, .int g_spot, .ref a_first, .ref a_second, .ref a_sums, .ref a_other, .int g_step, .int g_coverMany, .ref a_grid, .ref a_order, .int g_leastSums, .int g_leastPart]))] H := by rw [eH]; exact hP
  have hS : va_S A s.heap H locs := by rw [eH, eL]; exact hS
  suffices hG : W p l e rmX8_wipe s m ([.ref a_this] : List Value).toArray below meth c H locs 0 0 (MQ below (cQi D r0 A [(a_this, .inr (8, [.int v_length, .ref a_text, .ref a_now, .ref a_before, .int g_undoMany, .ref a_read, .int g_spot, .ref a_first, .ref a_second, .ref a_sums, .ref a_other, .int g_step, .int g_coverMany, .ref a_grid, .ref a_order, .int g_leastSums, .int g_leastPart]))]) ([.ref a_this] : List Value).toArray s 0 0 A) (F0 m 0 ls []) by rw [eH, eL] at hG; exact hG
  refine lv_aload_n hx hb dX8_wipe_0 rfl (lv_at hl 0 rfl) ?_
  refine va_get (D := D) (ci := 8) (v := .int g_length) (C := RX8) (T := TX8) (N := 17) hx hb hts z1 hown hN.1 hP 0 rfl rfl 0 (by decide) z2 (fun _ h9 => h9) rfl dX8_wipe_1 ?_
  refine lv_istore_n (lv' := [(1, .int g_length), (0, .ref a_this)]) hx hb dX8_wipe_4 rfl hl (by decide) rfl (fun ls hl => ?_)
  refine lv_aload_n hx hb dX8_wipe_5 rfl (lv_at hl 1 rfl) ?_
  refine lv_iconst (v := 0) hx hb dX8_wipe_6 (by decide) ?_
  refine va_put (D := D) (ci := 8) (v := .int (0 : Int32)) (ty := .int) (C := RX8) (T := TX8) (N := 17) hx hb hts z1 tyX8 tyX8_ok nmX8 hown hN.1 hP hD hS 0 rfl rfl 0 (by decide) z2 (fun _ h9 => h9) rfl (by decide +kernel) rfl rfl (Nat.le_of_ble_eq_true rfl) dX8_wipe_7 (fun H locs hP hD hS => ?_)
  have hP : va_P D vwCl [(a_this, .inr (8, [.int (0 : Int32), .ref a_text, .ref a_now, .ref a_before, .int g_undoMany, .ref a_read, .int g_spot, .ref a_first, .ref a_second, .ref a_sums, .ref a_other, .int g_step, .int g_coverMany, .ref a_grid, .ref a_order, .int g_leastSums, .int g_leastPart]))] H := hP
  have hD : va_D A [(a_this, .inr (8, [.int (0 : Int32), .ref a_text, .ref a_now, .ref a_before, .int g_undoMany, .ref a_read, .int g_spot, .ref a_first, .ref a_second, .ref a_sums, .ref a_other, .int g_step, .int g_coverMany, .ref a_grid, .ref a_order, .int g_leastSums, .int g_leastPart]))] := hD
  refine lv_iload_n hx hb dX8_wipe_10 rfl (lv_at hl 0 rfl) ?_
  have hE : (g_length, (0 : Int32)) = (r0, v_length) := Option.some.inj hf
  simp only [Prod.mk.injEq] at hE
  obtain ⟨rfl, rfl⟩ := hE
  exact rtI hx hb hr hlk hP hD hS dX8_wipe_11
abbrev rmX8_byteAt : Room := { frames := 0, cells := 0, slots := 0, locals := 0 }
noncomputable def fX8_byteAt (q1 : Int32) (g_length : Int32) (g_text : Nat → Int32) : Option (Int32) := br (g_length ≤ q1) (some ((0 : Int32))) (gd (¬ q1 < 0 ∧ q1.toNatClampNeg < 200) (some (g_text q1.toNatClampNeg)))
set_option maxHeartbeats 4000000 in
set_option maxRecDepth 100000 in
theorem cX8_byteAt_ct (l : Launch) (D : va_G) (cI cL cC cZ : ClassId) (a_this a_text a_now a_before a_read a_first a_second a_sums a_other a_grid a_order : Nat) (g_length : Int32) (g_undoMany : Int32) (g_spot : Int32) (g_step : Int32) (g_coverMany : Int32) (g_leastSums : Int32) (g_leastPart : Int32) (g_text : Nat → Int32) (q1 : Int32) (r0 : Int32) (hf : fX8_byteAt q1 g_length g_text = some r0) : CtI l yX8_byteAt wsX8_byteAt rmX8_byteAt D (tyz cI cL cC cZ) [.ref a_this, .int q1] [(a_this, .inr (8, [.int g_length, .ref a_text, .ref a_now, .ref a_before, .int g_undoMany, .ref a_read, .int g_spot, .ref a_first, .ref a_second, .ref a_sums, .ref a_other, .int g_step, .int g_coverMany, .ref a_grid, .ref a_order, .int g_leastSums, .int g_leastPart])), (a_text, .inl (cI, 200, .inl g_text))] [(a_this, .inr (8, [.int g_length, .ref a_text, .ref a_now, .ref a_before, .int g_undoMany, .ref a_read, .int g_spot, .ref a_first, .ref a_second, .ref a_sums, .ref a_other, .int g_step, .int g_coverMany, .ref a_grid, .ref a_order, .int g_leastSums, .int g_leastPart])), (a_text, .inl (cI, 200, .inl g_text))] r0 := by
  refine CtI.make (cc := cX8_byteAt) (maxL := 2) (ty := .int) (by decide) rfl (Nat.le_of_ble_eq_true rfl) ?_
  intro p e s m below meth c A ls C0 hN hA hP hD hl
  obtain ⟨hx, hb, hr, hml, hown, hts, hlk⟩ := id C0
  have hown : s.vm.findClass RX8 = some m.cls := hown
  have hS : va_S A s.heap s.heap [] := va_S.rf
  have hP : va_P D vwCl [(a_this, .inr (8, [.int g_length, .ref a_text, .ref a_now, .ref a_before, .int g_undoMany, .ref a_read, .int g_spot, .ref a_first, .ref a_second, .ref a_sums, .ref a_other, .int g_step, .int g_coverMany, .ref a_grid, .ref a_order, .int g_leastSums, .int g_leastPart])), (a_text, .inl (cI, 200, .inl g_text))] s.heap := hP
  have hD : va_D A [(a_this, .inr (8, [.int g_length, .ref a_text, .ref a_now, .ref a_before, .int g_undoMany, .ref a_read, .int g_spot, .ref a_first, .ref a_second, .ref a_sums, .ref a_other, .int g_step, .int g_coverMany, .ref a_grid, .ref a_order, .int g_leastSums, .int g_leastPart])), (a_text, .inl (cI, 200, .inl g_text))] := hD
  have hl : lv_has ls 2 [(0, .ref a_this), (1, .int q1)] := hl
  have z1 : ∀ w ∈ u_ws RX8 TX8 17, w ∈ wsX8_byteAt := by decide +kernel
  have z2 := hts (.fieldLink RX8 51 "LittleSumsModel" "length" "I") (by decide +kernel)
  have z3 := hts (.fieldLink RX8 7 "LittleSumsModel" "text" "[I") (by decide +kernel)
  unfold fX8_byteAt at hf
  obtain ⟨H, eH⟩ : ∃ z, z = s.heap := ⟨_, rfl⟩
  obtain ⟨locs, eL⟩ : ∃ z : List Loc, z = [] := ⟨_, rfl⟩
  have hP : va_P D vwCl [(a_this, .inr (8, [.int g_length, .ref a_text, .ref a_now, .ref a_before, .int g_undoMany, .ref a_read, .int g_spot, .ref a_first, .ref a_second, .ref a_sums, .ref a_other, .int g_step, .int g_coverMany, .ref a_grid, .ref a_order, .int g_leastSums, .int g_leastPart])), (a_text, .inl (cI, 200, .inl g_text))] H := by rw [eH]; exact hP
  have hS : va_S A s.heap H locs := by rw [eH, eL]; exact hS
  suffices hG : W p l e rmX8_byteAt s m ([.ref a_this, .int q1] : List Value).toArray below meth c H locs 0 0 (MQ below (cQi D r0 A [(a_this, .inr (8, [.int g_length, .ref a_text, .ref a_now, .ref a_before, .int g_undoMany, .ref a_read, .int g_spot, .ref a_first, .ref a_second, .ref a_sums, .ref a_other, .int g_step, .int g_coverMany, .ref a_grid, .ref a_order, .int g_leastSums, .int g_leastPart])), (a_text, .inl (cI, 200, .inl g_text))]) ([.ref a_this, .int q1] : List Value).toArray s 0 0 A) (F0 m 0 ls []) by rw [eH, eL] at hG; exact hG
  refine lv_iload_n hx hb dX8_byteAt_0 rfl (lv_at hl 1 rfl) ?_
  refine lv_aload_n hx hb dX8_byteAt_1 rfl (lv_at hl 0 rfl) ?_
  refine va_get (D := D) (ci := 8) (v := .int g_length) (C := RX8) (T := TX8) (N := 17) hx hb hts z1 hown hN.1 hP 0 rfl rfl 0 (by decide) z2 (fun _ h9 => h9) rfl dX8_byteAt_2 ?_
  refine lv_icmp_ge (tgt := 17) hx hb dX8_byteAt_5 (by decide) (fun c1 => ?_) (fun c1 => ?_)
  · have hf := br_pos c1 hf
    refine lv_iconst (v := 0) hx hb dX8_byteAt_17 (by decide) ?_
    have hE : (0 : Int32) = r0 := Option.some.inj hf
    subst hE
    exact rtI hx hb hr hlk hP hD hS dX8_byteAt_18
  · have hf := br_neg c1 hf
    refine lv_aload_n hx hb dX8_byteAt_8 rfl (lv_at hl 0 rfl) ?_
    refine va_get (D := D) (ci := 8) (v := .ref a_text) (C := RX8) (T := TX8) (N := 17) hx hb hts z1 hown hN.1 hP 0 rfl rfl 1 (by decide) z3 (fun _ h9 => h9) rfl dX8_byteAt_9 ?_
    refine lv_iload_n hx hb dX8_byteAt_12 rfl (lv_at hl 1 rfl) ?_
    obtain ⟨c2, hf⟩ := gd_some hf
    refine va_iald hx hb hN.1 hP 1 0 rfl rfl (ix_in c2) dX8_byteAt_13 ?_
    refine lv_goto (tgt := 18) hx hb dX8_byteAt_14 (by decide) ?_
    have hE : g_text q1.toNatClampNeg = r0 := Option.some.inj hf
    subst hE
    exact rtI hx hb hr hlk hP hD hS dX8_byteAt_18
abbrev rmX8_number : Room := { frames := 1, cells := 0, slots := 0, locals := 25 }
noncomputable def bX8_number_86 (g_length : Int32) (g_spot : Int32) (g_text : Nat → Int32) : Option (Int32 × Int32) := some (((-1 : Int32), g_spot))
noncomputable def bX8_number_65 (x1 : Int32) (x2 : Int32) (x3 : Int32) (x4 : Int32) (g_length : Int32) (g_spot : Int32) (g_text : Nat → Int32) : Option (Int32 × Int32) := br (x4 ≤ 0) (bX8_number_86 g_length g_spot g_text) (bd (fX8_in x3.toInt64 x1.toInt64 x2.toInt64) (fun u2 => br (u2 = 0) (bX8_number_86 g_length g_spot g_text) (some ((x3, g_spot)))))
noncomputable def bX8_number_5 (x1 : Int32) (x2 : Int32) (g_length : Int32) (g_text : Nat → Int32) (x3 : Int32) (x4 : Int32) (g_spot : Int32) : Option ((Int32 × Int32 × Int32) ⊕ (Int32 × Int32)) := br ((2 : Int32) ≤ x4) (ml (bX8_number_65 x1 x2 x3 x4 g_length g_spot g_text)) (bd (fX8_byteAt g_spot g_length g_text) (fun u6 => bd (fX8_in u6.toInt64 (48 : Int64) (57 : Int64)) (fun u7 => br (u7 = 0) (ml (bX8_number_65 x1 x2 x3 x4 g_length g_spot g_text)) (bd (fX8_byteAt g_spot g_length g_text) (fun u10 => lt_ ((((10 : Int32) * x3) + u10) - (48 : Int32)) (fun y11 => lt_ (g_spot + (1 : Int32)) (fun y12 => lt_ (x4 + (1 : Int32)) (fun y13 => some (Sum.inl ((y11, y13, y12)))))))))))
noncomputable def sX8_number_5 (x1 : Int32) (x2 : Int32) (g_length : Int32) (g_text : Nat → Int32) : (Int32 × Int32 × Int32) → Option ((Int32 × Int32 × Int32) ⊕ (Int32 × Int32)) := fun q => bX8_number_5 x1 x2 g_length g_text q.1 q.2.1 q.2.2
noncomputable def fX8_number (q1 : Int32) (q2 : Int32) (g_length : Int32) (g_spot : Int32) (g_text : Nat → Int32) : Option (Int32 × Int32) := run (sX8_number_5 q1 q2 g_length g_text) (((0 : Int32), (0 : Int32), g_spot))
set_option maxHeartbeats 4000000 in
set_option maxRecDepth 100000 in
theorem cX8_number_ct (l : Launch) (D : va_G) (cI cL cC cZ : ClassId) (a_this a_text a_now a_before a_read a_first a_second a_sums a_other a_grid a_order : Nat) (g_length : Int32) (g_undoMany : Int32) (g_spot : Int32) (g_step : Int32) (g_coverMany : Int32) (g_leastSums : Int32) (g_leastPart : Int32) (g_text : Nat → Int32) (q1 : Int32) (q2 : Int32) (r0 : Int32) (v_spot : Int32) (hf : fX8_number q1 q2 g_length g_spot g_text = some ((r0, v_spot))) : CtI l yX8_number wsX8_number rmX8_number D (tyz cI cL cC cZ) [.ref a_this, .int q1, .int q2] [(a_this, .inr (8, [.int g_length, .ref a_text, .ref a_now, .ref a_before, .int g_undoMany, .ref a_read, .int g_spot, .ref a_first, .ref a_second, .ref a_sums, .ref a_other, .int g_step, .int g_coverMany, .ref a_grid, .ref a_order, .int g_leastSums, .int g_leastPart])), (a_text, .inl (cI, 200, .inl g_text))] [(a_this, .inr (8, [.int g_length, .ref a_text, .ref a_now, .ref a_before, .int g_undoMany, .ref a_read, .int v_spot, .ref a_first, .ref a_second, .ref a_sums, .ref a_other, .int g_step, .int g_coverMany, .ref a_grid, .ref a_order, .int g_leastSums, .int g_leastPart])), (a_text, .inl (cI, 200, .inl g_text))] r0 := by
  refine CtI.make (cc := cX8_number) (maxL := 5) (ty := .int) (by decide) rfl (Nat.le_of_ble_eq_true rfl) ?_
  intro p e s m below meth c A ls C0 hN hA hP hD hl
  obtain ⟨hx, hb, hr, hml, hown, hts, hlk⟩ := id C0
  have hown : s.vm.findClass RX8 = some m.cls := hown
  have hS : va_S A s.heap s.heap [] := va_S.rf
  have hP : va_P D vwCl [(a_this, .inr (8, [.int g_length, .ref a_text, .ref a_now, .ref a_before, .int g_undoMany, .ref a_read, .int g_spot, .ref a_first, .ref a_second, .ref a_sums, .ref a_other, .int g_step, .int g_coverMany, .ref a_grid, .ref a_order, .int g_leastSums, .int g_leastPart])), (a_text, .inl (cI, 200, .inl g_text))] s.heap := hP
  have hD : va_D A [(a_this, .inr (8, [.int g_length, .ref a_text, .ref a_now, .ref a_before, .int g_undoMany, .ref a_read, .int g_spot, .ref a_first, .ref a_second, .ref a_sums, .ref a_other, .int g_step, .int g_coverMany, .ref a_grid, .ref a_order, .int g_leastSums, .int g_leastPart])), (a_text, .inl (cI, 200, .inl g_text))] := hD
  have hl : lv_has ls 5 [(0, .ref a_this), (1, .int q1), (2, .int q2)] := hl
  have z1 := va_cwS (R := rmX8_number) (rm := rmX8_in) (mc := 0) (ms := 0) 3 hts gX8_number_X8_in rfl rfl rfl (by decide +kernel) ⟨Nat.le_of_ble_eq_true rfl, Nat.le_of_ble_eq_true rfl⟩
  have z2 : ∀ w ∈ u_ws RX8 TX8 17, w ∈ wsX8_number := by decide +kernel
  have z3 := hts (.fieldLink RX8 55 "LittleSumsModel" "spot" "I") (by decide +kernel)
  have z4 := cwV (R := rmX8_number) (rm := rmX8_byteAt) (mc := 0) (ms := 0) 1 hts gX8_number_X8_byteAt rfl rfl rfl (by decide +kernel) ⟨Nat.le_of_ble_eq_true rfl, Nat.le_of_ble_eq_true rfl⟩
  have z5 := hts (.constantLong RX8 62 (48)) (by decide +kernel)
  have z6 := hts (.constantLong RX8 64 (57)) (by decide +kernel)
  have w86 : ∀ (g_length : Int32) (g_spot : Int32) (g_text : Nat → Int32) (H : Heap) (locs : List Loc) (ls : Array Slot), bX8_number_86 g_length g_spot g_text = some ((r0, v_spot)) → va_P D vwCl [(a_this, .inr (8, [.int g_length, .ref a_text, .ref a_now, .ref a_before, .int g_undoMany, .ref a_read, .int g_spot, .ref a_first, .ref a_second, .ref a_sums, .ref a_other, .int g_step, .int g_coverMany, .ref a_grid, .ref a_order, .int g_leastSums, .int g_leastPart])), (a_text, .inl (cI, 200, .inl g_text))] H → va_D A [(a_this, .inr (8, [.int g_length, .ref a_text, .ref a_now, .ref a_before, .int g_undoMany, .ref a_read, .int g_spot, .ref a_first, .ref a_second, .ref a_sums, .ref a_other, .int g_step, .int g_coverMany, .ref a_grid, .ref a_order, .int g_leastSums, .int g_leastPart])), (a_text, .inl (cI, 200, .inl g_text))] → va_S A s.heap H locs → lv_has ls 5 [] → W p l e rmX8_number s m ([.ref a_this, .int q1, .int q2] : List Value).toArray below meth c H locs 0 0 (MQ below (cQi D r0 A [(a_this, .inr (8, [.int g_length, .ref a_text, .ref a_now, .ref a_before, .int g_undoMany, .ref a_read, .int v_spot, .ref a_first, .ref a_second, .ref a_sums, .ref a_other, .int g_step, .int g_coverMany, .ref a_grid, .ref a_order, .int g_leastSums, .int g_leastPart])), (a_text, .inl (cI, 200, .inl g_text))]) ([.ref a_this, .int q1, .int q2] : List Value).toArray s 0 0 A) (F0 m 86 ls []) := by
    intro g_length g_spot g_text H locs ls hf hP hD hS hl
    unfold bX8_number_86 at hf
    refine lv_iconst (v := -1) hx hb dX8_number_86 (by decide) ?_
    have hE : ((-1 : Int32), g_spot) = (r0, v_spot) := Option.some.inj hf
    simp only [Prod.mk.injEq] at hE
    obtain ⟨rfl, rfl⟩ := hE
    exact rtI hx hb hr hlk hP hD hS dX8_number_87
  have w65 : ∀ (x1 : Int32) (x2 : Int32) (x3 : Int32) (x4 : Int32) (g_length : Int32) (g_spot : Int32) (g_text : Nat → Int32) (H : Heap) (locs : List Loc) (ls : Array Slot), bX8_number_65 x1 x2 x3 x4 g_length g_spot g_text = some ((r0, v_spot)) → va_P D vwCl [(a_this, .inr (8, [.int g_length, .ref a_text, .ref a_now, .ref a_before, .int g_undoMany, .ref a_read, .int g_spot, .ref a_first, .ref a_second, .ref a_sums, .ref a_other, .int g_step, .int g_coverMany, .ref a_grid, .ref a_order, .int g_leastSums, .int g_leastPart])), (a_text, .inl (cI, 200, .inl g_text))] H → va_D A [(a_this, .inr (8, [.int g_length, .ref a_text, .ref a_now, .ref a_before, .int g_undoMany, .ref a_read, .int g_spot, .ref a_first, .ref a_second, .ref a_sums, .ref a_other, .int g_step, .int g_coverMany, .ref a_grid, .ref a_order, .int g_leastSums, .int g_leastPart])), (a_text, .inl (cI, 200, .inl g_text))] → va_S A s.heap H locs → lv_has ls 5 [(1, .int x1), (2, .int x2), (3, .int x3), (4, .int x4)] → W p l e rmX8_number s m ([.ref a_this, .int q1, .int q2] : List Value).toArray below meth c H locs 0 0 (MQ below (cQi D r0 A [(a_this, .inr (8, [.int g_length, .ref a_text, .ref a_now, .ref a_before, .int g_undoMany, .ref a_read, .int v_spot, .ref a_first, .ref a_second, .ref a_sums, .ref a_other, .int g_step, .int g_coverMany, .ref a_grid, .ref a_order, .int g_leastSums, .int g_leastPart])), (a_text, .inl (cI, 200, .inl g_text))]) ([.ref a_this, .int q1, .int q2] : List Value).toArray s 0 0 A) (F0 m 65 ls []) := by
    intro x1 x2 x3 x4 g_length g_spot g_text H locs ls hf hP hD hS hl
    unfold bX8_number_65 at hf
    refine lv_iload hx hb dX8_number_65 (lv_at hl 3 rfl) ?_
    refine lv_if_le (tgt := 86) hx hb dX8_number_67 (by decide) (fun c1 => ?_) (fun c1 => ?_)
    · have hf := br_pos c1 hf
      exact w86 g_length g_spot g_text H locs ls hf hP hD hS (lv_sub hl [] rfl)
    · have hf := br_neg c1 hf
      refine lv_iload_n hx hb dX8_number_70 rfl (lv_at hl 2 rfl) ?_
      refine lv_i2l hx hb dX8_number_71 rfl ?_
      refine lv_iload_n hx hb dX8_number_72 rfl (lv_at hl 0 rfl) ?_
      refine lv_i2l hx hb dX8_number_73 rfl ?_
      refine lv_iload_n hx hb dX8_number_74 rfl (lv_at hl 1 rfl) ?_
      refine lv_i2l hx hb dX8_number_75 rfl ?_
      obtain ⟨u2, hu2, hf⟩ := bd_some hf
      refine caSI (rest := []) (As := [.long x3.toInt64, .long x1.toInt64, .long x2.toInt64]) (wr := [(a_this, .inr (8, [.int g_length, .ref a_text, .ref a_now, .ref a_before, .int g_undoMany, .ref a_read, .int g_spot, .ref a_first, .ref a_second, .ref a_sums, .ref a_other, .int g_step, .int g_coverMany, .ref a_grid, .ref a_order, .int g_leastSums, .int g_leastPart])), (a_text, .inl (cI, 200, .inl g_text))]) (wo := [(a_this, .inr (8, [.int g_length, .ref a_text, .ref a_now, .ref a_before, .int g_undoMany, .ref a_read, .int g_spot, .ref a_first, .ref a_second, .ref a_sums, .ref a_other, .int g_step, .int g_coverMany, .ref a_grid, .ref a_order, .int g_leastSums, .int g_leastPart])), (a_text, .inl (cI, 200, .inl g_text))]) ⟨hx, hb, hml, hown, hts⟩ hN hP hD hS hA (cX8_in_ct l D cI cL cC cZ x3.toInt64 x1.toInt64 x2.toInt64 u2 hu2) z1 [] [0, 1] [0, 1] rfl (by decide) rfl (by decide) (by decide) rfl (by decide) rfl hl.1 rfl (Nat.le_of_ble_eq_true rfl) dX8_number_76 ⟨Nat.zero_le _, Nat.zero_le _⟩ (fun H locs hP hD hS => ?_)
      refine lv_if_eq (tgt := 86) hx hb dX8_number_79 (by decide) (fun c3 => ?_) (fun c3 => ?_)
      · have hf := br_pos c3 hf
        exact w86 g_length g_spot g_text H locs ls hf hP hD hS (lv_sub hl [] rfl)
      · have hf := br_neg c3 hf
        refine lv_iload_n hx hb dX8_number_82 rfl (lv_at hl 2 rfl) ?_
        refine lv_goto (tgt := 87) hx hb dX8_number_83 (by decide) ?_
        have hE : (x3, g_spot) = (r0, v_spot) := Option.some.inj hf
        simp only [Prod.mk.injEq] at hE
        obtain ⟨rfl, rfl⟩ := hE
        exact rtI hx hb hr hlk hP hD hS dX8_number_87
  have w5 : ∀ (x1 : Int32) (x2 : Int32) (g_length : Int32) (g_text : Nat → Int32) (x3 : Int32) (x4 : Int32) (g_spot : Int32) (t : Int32 × Int32) (H : Heap) (locs : List Loc) (ls : Array Slot), run (sX8_number_5 x1 x2 g_length g_text) ((x3, x4, g_spot)) = some t → (fun z => z = (r0, v_spot)) t → va_P D vwCl [(a_this, .inr (8, [.int g_length, .ref a_text, .ref a_now, .ref a_before, .int g_undoMany, .ref a_read, .int g_spot, .ref a_first, .ref a_second, .ref a_sums, .ref a_other, .int g_step, .int g_coverMany, .ref a_grid, .ref a_order, .int g_leastSums, .int g_leastPart])), (a_text, .inl (cI, 200, .inl g_text))] H → va_D A [(a_this, .inr (8, [.int g_length, .ref a_text, .ref a_now, .ref a_before, .int g_undoMany, .ref a_read, .int g_spot, .ref a_first, .ref a_second, .ref a_sums, .ref a_other, .int g_step, .int g_coverMany, .ref a_grid, .ref a_order, .int g_leastSums, .int g_leastPart])), (a_text, .inl (cI, 200, .inl g_text))] → va_S A s.heap H locs → lv_has ls 5 [(0, .ref a_this), (1, .int x1), (2, .int x2), (3, .int x3), (4, .int x4)] → W p l e rmX8_number s m ([.ref a_this, .int q1, .int q2] : List Value).toArray below meth c H locs 0 0 (MQ below (cQi D r0 A [(a_this, .inr (8, [.int g_length, .ref a_text, .ref a_now, .ref a_before, .int g_undoMany, .ref a_read, .int v_spot, .ref a_first, .ref a_second, .ref a_sums, .ref a_other, .int g_step, .int g_coverMany, .ref a_grid, .ref a_order, .int g_leastSums, .int g_leastPart])), (a_text, .inl (cI, 200, .inl g_text))]) ([.ref a_this, .int q1, .int q2] : List Value).toArray s 0 0 A) (F0 m 5 ls []) := by
    intro x1 x2 g_length g_text
    obtain ⟨F5, eF5⟩ : ∃ F : (Int32 × Int32 × Int32) → Prop, F = fun q => ∀ (H : Heap) (locs : List Loc) (ls : Array Slot), va_P D vwCl [(a_this, .inr (8, [.int g_length, .ref a_text, .ref a_now, .ref a_before, .int g_undoMany, .ref a_read, .int q.2.2, .ref a_first, .ref a_second, .ref a_sums, .ref a_other, .int g_step, .int g_coverMany, .ref a_grid, .ref a_order, .int g_leastSums, .int g_leastPart])), (a_text, .inl (cI, 200, .inl g_text))] H → va_D A [(a_this, .inr (8, [.int g_length, .ref a_text, .ref a_now, .ref a_before, .int g_undoMany, .ref a_read, .int q.2.2, .ref a_first, .ref a_second, .ref a_sums, .ref a_other, .int g_step, .int g_coverMany, .ref a_grid, .ref a_order, .int g_leastSums, .int g_leastPart])), (a_text, .inl (cI, 200, .inl g_text))] → va_S A s.heap H locs → lv_has ls 5 [(0, .ref a_this), (1, .int x1), (2, .int x2), (3, .int q.1), (4, .int q.2.1)] → W p l e rmX8_number s m ([.ref a_this, .int q1, .int q2] : List Value).toArray below meth c H locs 0 0 (MQ below (cQi D r0 A [(a_this, .inr (8, [.int g_length, .ref a_text, .ref a_now, .ref a_before, .int g_undoMany, .ref a_read, .int v_spot, .ref a_first, .ref a_second, .ref a_sums, .ref a_other, .int g_step, .int g_coverMany, .ref a_grid, .ref a_order, .int g_leastSums, .int g_leastPart])), (a_text, .inl (cI, 200, .inl g_text))]) ([.ref a_this, .int q1, .int q2] : List Value).toArray s 0 0 A) (F0 m 5 ls []) := ⟨_, rfl⟩
    have key : ∀ (q : Int32 × Int32 × Int32) (t : Int32 × Int32), run (sX8_number_5 x1 x2 g_length g_text) q = some t → (fun z => z = (r0, v_spot)) t → F5 q := by
      refine loop_rule (sX8_number_5 x1 x2 g_length g_text) F5 (fun z => z = (r0, v_spot)) ?_
      intro q t hf hF
      have hF : (Sum.elim F5 (fun z => z = (r0, v_spot))) t := hF
      rw [eF5]
      obtain ⟨x3, x4, g_spot⟩ := q
      intro H locs ls hP hD hS hl
      have hP : va_P D vwCl [(a_this, .inr (8, [.int g_length, .ref a_text, .ref a_now, .ref a_before, .int g_undoMany, .ref a_read, .int g_spot, .ref a_first, .ref a_second, .ref a_sums, .ref a_other, .int g_step, .int g_coverMany, .ref a_grid, .ref a_order, .int g_leastSums, .int g_leastPart])), (a_text, .inl (cI, 200, .inl g_text))] H := hP
      have hD : va_D A [(a_this, .inr (8, [.int g_length, .ref a_text, .ref a_now, .ref a_before, .int g_undoMany, .ref a_read, .int g_spot, .ref a_first, .ref a_second, .ref a_sums, .ref a_other, .int g_step, .int g_coverMany, .ref a_grid, .ref a_order, .int g_leastSums, .int g_leastPart])), (a_text, .inl (cI, 200, .inl g_text))] := hD
      have hl : lv_has ls 5 [(0, .ref a_this), (1, .int x1), (2, .int x2), (3, .int x3), (4, .int x4)] := hl
      have hf : bX8_number_5 x1 x2 g_length g_text x3 x4 g_spot = some t := hf
      unfold bX8_number_5 at hf
      refine lv_iload hx hb dX8_number_5 (lv_at hl 4 rfl) ?_
      refine lv_iconst (v := 2) hx hb dX8_number_7 (by decide) ?_
      refine lv_icmp_ge (tgt := 65) hx hb dX8_number_8 (by decide) (fun c4 => ?_) (fun c4 => ?_)
      · have hf := br_pos c4 hf
        obtain ⟨t5, hf, hF⟩ := ml_fin hf hF
        have hF : t5 = (r0, v_spot) := hF
        rw [hF] at hf
        exact w65 x1 x2 x3 x4 g_length g_spot g_text H locs ls hf hP hD hS (lv_sub hl [1, 2, 3, 4] rfl)
      · have hf := br_neg c4 hf
        refine lv_aload_n hx hb dX8_number_11 rfl (lv_at hl 0 rfl) ?_
        refine lv_aload_n hx hb dX8_number_12 rfl (lv_at hl 0 rfl) ?_
        refine va_get (D := D) (ci := 8) (v := .int g_spot) (C := RX8) (T := TX8) (N := 17) hx hb hts z2 hown hN.1 hP 0 rfl rfl 6 (by decide) z3 (fun _ h9 => h9) rfl dX8_number_13 ?_
        obtain ⟨u6, hu6, hf⟩ := bd_some hf
        refine caVI (rest := []) (As := [.int g_spot]) (wr := []) (wo := [(a_this, .inr (8, [.int g_length, .ref a_text, .ref a_now, .ref a_before, .int g_undoMany, .ref a_read, .int g_spot, .ref a_first, .ref a_second, .ref a_sums, .ref a_other, .int g_step, .int g_coverMany, .ref a_grid, .ref a_order, .int g_leastSums, .int g_leastPart])), (a_text, .inl (cI, 200, .inl g_text))]) ⟨hx, hb, hml, hown, hts⟩ hN hP hD hS hA (cX8_byteAt_ct l D cI cL cC cZ a_this a_text a_now a_before a_read a_first a_second a_sums a_other a_grid a_order g_length g_undoMany g_spot g_step g_coverMany g_leastSums g_leastPart g_text g_spot u6 hu6) z4 0 8 rfl rfl [0, 1] [] [0, 1] rfl (by decide) rfl (by decide) (by decide) rfl (by decide) rfl hl.1 rfl (Nat.le_of_ble_eq_true rfl) dX8_number_16 ⟨Nat.zero_le _, Nat.zero_le _⟩ (fun H locs hP hD hS => ?_)
        refine lv_i2l hx hb dX8_number_19 rfl ?_
        refine lv_ldc2 (v := 48) hx hb hown z5 dX8_number_20 ?_
        refine lv_ldc2 (v := 57) hx hb hown z6 dX8_number_23 ?_
        obtain ⟨u7, hu7, hf⟩ := bd_some hf
        refine caSI (rest := []) (As := [.long u6.toInt64, .long (48 : Int64), .long (57 : Int64)]) (wr := [(a_this, .inr (8, [.int g_length, .ref a_text, .ref a_now, .ref a_before, .int g_undoMany, .ref a_read, .int g_spot, .ref a_first, .ref a_second, .ref a_sums, .ref a_other, .int g_step, .int g_coverMany, .ref a_grid, .ref a_order, .int g_leastSums, .int g_leastPart])), (a_text, .inl (cI, 200, .inl g_text))]) (wo := [(a_this, .inr (8, [.int g_length, .ref a_text, .ref a_now, .ref a_before, .int g_undoMany, .ref a_read, .int g_spot, .ref a_first, .ref a_second, .ref a_sums, .ref a_other, .int g_step, .int g_coverMany, .ref a_grid, .ref a_order, .int g_leastSums, .int g_leastPart])), (a_text, .inl (cI, 200, .inl g_text))]) ⟨hx, hb, hml, hown, hts⟩ hN hP hD hS hA (cX8_in_ct l D cI cL cC cZ u6.toInt64 (48 : Int64) (57 : Int64) u7 hu7) z1 [] [0, 1] [0, 1] rfl (by decide) rfl (by decide) (by decide) rfl (by decide) rfl hl.1 rfl (Nat.le_of_ble_eq_true rfl) dX8_number_26 ⟨Nat.zero_le _, Nat.zero_le _⟩ (fun H locs hP hD hS => ?_)
        refine lv_if_eq (tgt := 65) hx hb dX8_number_29 (by decide) (fun c8 => ?_) (fun c8 => ?_)
        · have hf := br_pos c8 hf
          obtain ⟨t9, hf, hF⟩ := ml_fin hf hF
          have hF : t9 = (r0, v_spot) := hF
          rw [hF] at hf
          exact w65 x1 x2 x3 x4 g_length g_spot g_text H locs ls hf hP hD hS (lv_sub hl [1, 2, 3, 4] rfl)
        · have hf := br_neg c8 hf
          refine lv_bipush (v := 10) hx hb dX8_number_32 (by decide) ?_
          refine lv_iload_n hx hb dX8_number_34 rfl (lv_at hl 3 rfl) ?_
          refine lv_imul hx hb dX8_number_35 ?_
          refine lv_aload_n hx hb dX8_number_36 rfl (lv_at hl 0 rfl) ?_
          refine lv_aload_n hx hb dX8_number_37 rfl (lv_at hl 0 rfl) ?_
          refine va_get (D := D) (ci := 8) (v := .int g_spot) (C := RX8) (T := TX8) (N := 17) hx hb hts z2 hown hN.1 hP 0 rfl rfl 6 (by decide) z3 (fun _ h9 => h9) rfl dX8_number_38 ?_
          obtain ⟨u10, hu10, hf⟩ := bd_some hf
          refine caVI (rest := [.int ((10 : Int32) * x3)]) (As := [.int g_spot]) (wr := []) (wo := [(a_this, .inr (8, [.int g_length, .ref a_text, .ref a_now, .ref a_before, .int g_undoMany, .ref a_read, .int g_spot, .ref a_first, .ref a_second, .ref a_sums, .ref a_other, .int g_step, .int g_coverMany, .ref a_grid, .ref a_order, .int g_leastSums, .int g_leastPart])), (a_text, .inl (cI, 200, .inl g_text))]) ⟨hx, hb, hml, hown, hts⟩ hN hP hD hS hA (cX8_byteAt_ct l D cI cL cC cZ a_this a_text a_now a_before a_read a_first a_second a_sums a_other a_grid a_order g_length g_undoMany g_spot g_step g_coverMany g_leastSums g_leastPart g_text g_spot u10 hu10) z4 0 8 rfl rfl [0, 1] [] [0, 1] rfl (by decide) rfl (by decide) (by decide) rfl (by decide) rfl hl.1 rfl (Nat.le_of_ble_eq_true rfl) dX8_number_41 ⟨Nat.zero_le _, Nat.zero_le _⟩ (fun H locs hP hD hS => ?_)
          refine lv_iadd hx hb dX8_number_44 ?_
          refine lv_bipush (v := 48) hx hb dX8_number_45 (by decide) ?_
          refine lv_isub hx hb dX8_number_47 ?_
          refine lv_topi (fun y11 ey11 => ?_)
          have hf := lt_some hf y11 ey11
          refine lv_istore_n (lv' := [(3, .int y11), (0, .ref a_this), (1, .int x1), (2, .int x2), (4, .int x4)]) hx hb dX8_number_48 rfl hl (by decide) rfl (fun ls hl => ?_)
          refine lv_aload_n hx hb dX8_number_49 rfl (lv_at hl 1 rfl) ?_
          refine lv_dup hx hb dX8_number_50 rfl ?_
          refine va_get (D := D) (ci := 8) (v := .int g_spot) (C := RX8) (T := TX8) (N := 17) hx hb hts z2 hown hN.1 hP 0 rfl rfl 6 (by decide) z3 (fun _ h9 => h9) rfl dX8_number_51 ?_
          refine lv_iconst (v := 1) hx hb dX8_number_54 (by decide) ?_
          refine lv_iadd hx hb dX8_number_55 ?_
          refine lv_topi (fun y12 ey12 => ?_)
          have hf := lt_some hf y12 ey12
          refine va_put (D := D) (ci := 8) (v := .int y12) (ty := .int) (C := RX8) (T := TX8) (N := 17) hx hb hts z2 tyX8 tyX8_ok nmX8 hown hN.1 hP hD hS 0 rfl rfl 6 (by decide) z3 (fun _ h9 => h9) rfl (by decide +kernel) rfl rfl (Nat.le_of_ble_eq_true rfl) dX8_number_56 (fun H locs hP hD hS => ?_)
          have hP : va_P D vwCl [(a_this, .inr (8, [.int g_length, .ref a_text, .ref a_now, .ref a_before, .int g_undoMany, .ref a_read, .int y12, .ref a_first, .ref a_second, .ref a_sums, .ref a_other, .int g_step, .int g_coverMany, .ref a_grid, .ref a_order, .int g_leastSums, .int g_leastPart])), (a_text, .inl (cI, 200, .inl g_text))] H := hP
          have hD : va_D A [(a_this, .inr (8, [.int g_length, .ref a_text, .ref a_now, .ref a_before, .int g_undoMany, .ref a_read, .int y12, .ref a_first, .ref a_second, .ref a_sums, .ref a_other, .int g_step, .int g_coverMany, .ref a_grid, .ref a_order, .int g_leastSums, .int g_leastPart])), (a_text, .inl (cI, 200, .inl g_text))] := hD
          obtain ⟨y13, ey13⟩ : ∃ z : Int32, z = x4 + (1 : Int32) := ⟨_, rfl⟩
          have hf := lt_some hf y13 ey13
          refine lv_iinc (v := y13) (lv' := [(4, .int y13), (3, .int y11), (0, .ref a_this), (1, .int x1), (2, .int x2)]) hx hb dX8_number_59 hl (k := 4) rfl (by rw [ey13]; rfl) (by decide) rfl (fun ls hl => ?_)
          refine lv_goto (tgt := 5) hx hb dX8_number_62 (by decide) ?_
          cases hf
          exact ((congrFun eF5 _).mp hF) H locs ls hP hD hS (lv_sub hl [2, 3, 4, 1, 0] rfl)
    intro x3 x4 g_spot t H locs ls hf hF hP hD hS hl
    exact ((congrFun eF5 _).mp (key ((x3, x4, g_spot)) t hf hF)) H locs ls hP hD hS hl
  unfold fX8_number at hf
  obtain ⟨H, eH⟩ : ∃ z, z = s.heap := ⟨_, rfl⟩
  obtain ⟨locs, eL⟩ : ∃ z : List Loc, z = [] := ⟨_, rfl⟩
  have hP : va_P D vwCl [(a_this, .inr (8, [.int g_length, .ref a_text, .ref a_now, .ref a_before, .int g_undoMany, .ref a_read, .int g_spot, .ref a_first, .ref a_second, .ref a_sums, .ref a_other, .int g_step, .int g_coverMany, .ref a_grid, .ref a_order, .int g_leastSums, .int g_leastPart])), (a_text, .inl (cI, 200, .inl g_text))] H := by rw [eH]; exact hP
  have hS : va_S A s.heap H locs := by rw [eH, eL]; exact hS
  suffices hG : W p l e rmX8_number s m ([.ref a_this, .int q1, .int q2] : List Value).toArray below meth c H locs 0 0 (MQ below (cQi D r0 A [(a_this, .inr (8, [.int g_length, .ref a_text, .ref a_now, .ref a_before, .int g_undoMany, .ref a_read, .int v_spot, .ref a_first, .ref a_second, .ref a_sums, .ref a_other, .int g_step, .int g_coverMany, .ref a_grid, .ref a_order, .int g_leastSums, .int g_leastPart])), (a_text, .inl (cI, 200, .inl g_text))]) ([.ref a_this, .int q1, .int q2] : List Value).toArray s 0 0 A) (F0 m 0 ls []) by rw [eH, eL] at hG; exact hG
  refine lv_iconst (v := 0) hx hb dX8_number_0 (by decide) ?_
  refine lv_istore_n (lv' := [(3, .int (0 : Int32)), (0, .ref a_this), (1, .int q1), (2, .int q2)]) hx hb dX8_number_1 rfl hl (by decide) rfl (fun ls hl => ?_)
  refine lv_iconst (v := 0) hx hb dX8_number_2 (by decide) ?_
  refine lv_istore (lv' := [(4, .int (0 : Int32)), (3, .int (0 : Int32)), (0, .ref a_this), (1, .int q1), (2, .int q2)]) hx hb dX8_number_3 hl (by decide) rfl (fun ls hl => ?_)
  exact w5 q1 q2 g_length g_text (0 : Int32) (0 : Int32) g_spot (r0, v_spot) H locs ls hf rfl hP hD hS (lv_sub hl [2, 3, 4, 1, 0] rfl)
abbrev rmX8_item : Room := { frames := 2, cells := 0, slots := 0, locals := 49 }
noncomputable def bX8_item_119 (x1 : Int32) (x2 : Int32) (k0 : Int32) (g_length : Int32) (g_spot : Int32) (g_text : Nat → Int32) (g_read : Nat → Int32) : Option ((Int32 × Int32 × (Nat → Int32)) ⊕ (Int32 × Int32 × (Nat → Int32))) := br (k0 = (-1 : Int32)) (gd ((0 : Int32) = 0 ∨ (0 : Int32) = 1) (some (Sum.inr (((0 : Int32), g_spot, g_read))))) (gd (¬ (((41 : Int32) * x2) + k0) < 0 ∧ (((41 : Int32) * x2) + k0).toNatClampNeg < 164) (lt_ (upd g_read (((41 : Int32) * x2) + k0).toNatClampNeg (vp_nar .boolean (1 : Int32))) (fun y3 => some (Sum.inl ((k0, g_spot, y3))))))
noncomputable def bX8_item_81 (x1 : Int32) (x2 : Int32) (x3 : Int32) (g_length : Int32) (g_spot : Int32) (g_text : Nat → Int32) (g_read : Nat → Int32) : Option ((Int32 × Int32 × (Nat → Int32)) ⊕ (Int32 × Int32 × (Nat → Int32))) := lt_ (g_spot + (1 : Int32)) (fun y5 => bd (fX8_byteAt (y5 - (1 : Int32)) g_length g_text) (fun u6 => br (u6 = (44 : Int32)) (bd (fX8_number (x3 + (1 : Int32)) (40 : Int32) g_length y5 g_text) (fun u8 => bX8_item_119 x1 x2 u8.1 g_length u8.2 g_text g_read)) (bX8_item_119 x1 x2 (-1 : Int32) g_length y5 g_text g_read)))
noncomputable def bX8_item_58 (x1 : Int32) (x2 : Int32) (g_length : Int32) (g_text : Nat → Int32) (x3 : Int32) (g_spot : Int32) (g_read : Nat → Int32) : Option ((Int32 × Int32 × (Nat → Int32)) ⊕ (Int32 × Int32 × (Nat → Int32))) := br (x1 = (115 : Int32)) (br (x3 < 0) (bX8_item_81 x1 x2 x3 g_length g_spot g_text g_read) (bd (fX8_byteAt g_spot g_length g_text) (fun u12 => br (u12 = (44 : Int32)) (bX8_item_81 x1 x2 x3 g_length g_spot g_text g_read) (gd ((1 : Int32) = 0 ∨ (1 : Int32) = 1) (some (Sum.inr (((1 : Int32), g_spot, g_read)))))))) (gd ((1 : Int32) = 0 ∨ (1 : Int32) = 1) (some (Sum.inr (((1 : Int32), g_spot, g_read)))))
noncomputable def sX8_item_58 (x1 : Int32) (x2 : Int32) (g_length : Int32) (g_text : Nat → Int32) : (Int32 × Int32 × (Nat → Int32)) → Option ((Int32 × Int32 × (Nat → Int32)) ⊕ (Int32 × Int32 × (Nat → Int32))) := fun q => bX8_item_58 x1 x2 g_length g_text q.1 q.2.1 q.2.2
noncomputable def bX8_item_32 (x1 : Int32) (x2 : Int32) (g_length : Int32) (g_spot : Int32) (g_text : Nat → Int32) (x3 : Int32) (g_read : Nat → Int32) : Option ((Int32 × (Nat → Int32)) ⊕ (Int32 × Int32 × (Nat → Int32))) := br ((41 : Int32) ≤ x3) (ml (run (sX8_item_58 x1 x2 g_length g_text) (((-1 : Int32), g_spot, g_read)))) (gd (¬ (((41 : Int32) * x2) + x3) < 0 ∧ (((41 : Int32) * x2) + x3).toNatClampNeg < 164) (lt_ (upd g_read (((41 : Int32) * x2) + x3).toNatClampNeg (vp_nar .boolean (0 : Int32))) (fun y18 => lt_ (x3 + (1 : Int32)) (fun y19 => some (Sum.inl ((y19, y18)))))))
noncomputable def sX8_item_32 (x1 : Int32) (x2 : Int32) (g_length : Int32) (g_spot : Int32) (g_text : Nat → Int32) : (Int32 × (Nat → Int32)) → Option ((Int32 × (Nat → Int32)) ⊕ (Int32 × Int32 × (Nat → Int32))) := fun q => bX8_item_32 x1 x2 g_length g_spot g_text q.1 q.2
noncomputable def bX8_item_22 (x1 : Int32) (k0 : Int32) (g_length : Int32) (g_spot : Int32) (g_text : Nat → Int32) (g_read : Nat → Int32) : Option (Int32 × Int32 × (Nat → Int32)) := br (k0 = (-1 : Int32)) (gd ((0 : Int32) = 0 ∨ (0 : Int32) = 1) (some (((0 : Int32), g_spot, g_read)))) (run (sX8_item_32 x1 k0 g_length g_spot g_text) (((0 : Int32), g_read)))
noncomputable def bX8_item_12 (x1 : Int32) (g_length : Int32) (g_spot : Int32) (g_text : Nat → Int32) (g_read : Nat → Int32) : Option (Int32 × Int32 × (Nat → Int32)) := bd (fX8_number (0 : Int32) (3 : Int32) g_length g_spot g_text) (fun u22 => bX8_item_22 x1 u22.1 g_length u22.2 g_text g_read)
noncomputable def fX8_item (q1 : Int32) (g_length : Int32) (g_spot : Int32) (g_text : Nat → Int32) (g_read : Nat → Int32) : Option (Int32 × Int32 × (Nat → Int32)) := br (q1 = (115 : Int32)) (bX8_item_12 q1 g_length g_spot g_text g_read) (br (q1 = (101 : Int32)) (bX8_item_12 q1 g_length g_spot g_text g_read) (bX8_item_22 q1 (-1 : Int32) g_length g_spot g_text g_read))
set_option maxHeartbeats 4000000 in
set_option maxRecDepth 100000 in
theorem cX8_item_ct (l : Launch) (D : va_G) (cI cL cC cZ : ClassId) (a_this a_text a_now a_before a_read a_first a_second a_sums a_other a_grid a_order : Nat) (g_length : Int32) (g_undoMany : Int32) (g_spot : Int32) (g_step : Int32) (g_coverMany : Int32) (g_leastSums : Int32) (g_leastPart : Int32) (g_text : Nat → Int32) (g_read : Nat → Int32) (q1 : Int32) (r0 : Int32) (v_spot : Int32) (v_read : Nat → Int32) (hf : fX8_item q1 g_length g_spot g_text g_read = some ((r0, v_spot, v_read))) : CtI l yX8_item wsX8_item rmX8_item D (tyz cI cL cC cZ) [.ref a_this, .int q1] [(a_this, .inr (8, [.int g_length, .ref a_text, .ref a_now, .ref a_before, .int g_undoMany, .ref a_read, .int g_spot, .ref a_first, .ref a_second, .ref a_sums, .ref a_other, .int g_step, .int g_coverMany, .ref a_grid, .ref a_order, .int g_leastSums, .int g_leastPart])), (a_text, .inl (cI, 200, .inl g_text)), (a_read, .inl (cZ, 164, .inl g_read))] [(a_this, .inr (8, [.int g_length, .ref a_text, .ref a_now, .ref a_before, .int g_undoMany, .ref a_read, .int v_spot, .ref a_first, .ref a_second, .ref a_sums, .ref a_other, .int g_step, .int g_coverMany, .ref a_grid, .ref a_order, .int g_leastSums, .int g_leastPart])), (a_text, .inl (cI, 200, .inl g_text)), (a_read, .inl (cZ, 164, .inl v_read))] r0 := by
  refine CtI.make (cc := cX8_item) (maxL := 5) (ty := .boolean) (by decide) rfl (Nat.le_of_ble_eq_true rfl) ?_
  intro p e s m below meth c A ls C0 hN hA hP hD hl
  obtain ⟨hx, hb, hr, hml, hown, hts, hlk⟩ := id C0
  have hown : s.vm.findClass RX8 = some m.cls := hown
  have hS : va_S A s.heap s.heap [] := va_S.rf
  have hP : va_P D vwCl [(a_this, .inr (8, [.int g_length, .ref a_text, .ref a_now, .ref a_before, .int g_undoMany, .ref a_read, .int g_spot, .ref a_first, .ref a_second, .ref a_sums, .ref a_other, .int g_step, .int g_coverMany, .ref a_grid, .ref a_order, .int g_leastSums, .int g_leastPart])), (a_text, .inl (cI, 200, .inl g_text)), (a_read, .inl (cZ, 164, .inl g_read))] s.heap := hP
  have hD : va_D A [(a_this, .inr (8, [.int g_length, .ref a_text, .ref a_now, .ref a_before, .int g_undoMany, .ref a_read, .int g_spot, .ref a_first, .ref a_second, .ref a_sums, .ref a_other, .int g_step, .int g_coverMany, .ref a_grid, .ref a_order, .int g_leastSums, .int g_leastPart])), (a_text, .inl (cI, 200, .inl g_text)), (a_read, .inl (cZ, 164, .inl g_read))] := hD
  have hl : lv_has ls 5 [(0, .ref a_this), (1, .int q1)] := hl
  have z1 : ∀ w ∈ u_ws RX8 TX8 17, w ∈ wsX8_item := by decide +kernel
  have z2 := hts (.fieldLink RX8 20 "LittleSumsModel" "read" "[Z") (by decide +kernel)
  have z3 := hts (.fieldLink RX8 55 "LittleSumsModel" "spot" "I") (by decide +kernel)
  have z4 := cwV (R := rmX8_item) (rm := rmX8_byteAt) (mc := 0) (ms := 0) 1 hts gX8_item_X8_byteAt rfl rfl rfl (by decide +kernel) ⟨Nat.le_of_ble_eq_true rfl, Nat.le_of_ble_eq_true rfl⟩
  have z5 := cwV (R := rmX8_item) (rm := rmX8_number) (mc := 0) (ms := 0) 2 hts gX8_item_X8_number rfl rfl rfl (by decide +kernel) ⟨Nat.le_of_ble_eq_true rfl, Nat.le_of_ble_eq_true rfl⟩
  have w58 : ∀ (x1 : Int32) (x2 : Int32) (g_length : Int32) (g_text : Nat → Int32) (x3 : Int32) (g_spot : Int32) (g_read : Nat → Int32) (t : Int32 × Int32 × (Nat → Int32)) (H : Heap) (locs : List Loc) (ls : Array Slot), run (sX8_item_58 x1 x2 g_length g_text) ((x3, g_spot, g_read)) = some t → (fun z => z = (r0, v_spot, v_read)) t → va_P D vwCl [(a_this, .inr (8, [.int g_length, .ref a_text, .ref a_now, .ref a_before, .int g_undoMany, .ref a_read, .int g_spot, .ref a_first, .ref a_second, .ref a_sums, .ref a_other, .int g_step, .int g_coverMany, .ref a_grid, .ref a_order, .int g_leastSums, .int g_leastPart])), (a_text, .inl (cI, 200, .inl g_text)), (a_read, .inl (cZ, 164, .inl g_read))] H → va_D A [(a_this, .inr (8, [.int g_length, .ref a_text, .ref a_now, .ref a_before, .int g_undoMany, .ref a_read, .int g_spot, .ref a_first, .ref a_second, .ref a_sums, .ref a_other, .int g_step, .int g_coverMany, .ref a_grid, .ref a_order, .int g_leastSums, .int g_leastPart])), (a_text, .inl (cI, 200, .inl g_text)), (a_read, .inl (cZ, 164, .inl g_read))] → va_S A s.heap H locs → lv_has ls 5 [(0, .ref a_this), (1, .int x1), (2, .int x2), (3, .int x3)] → W p l e rmX8_item s m ([.ref a_this, .int q1] : List Value).toArray below meth c H locs 0 0 (MQ below (cQi D r0 A [(a_this, .inr (8, [.int g_length, .ref a_text, .ref a_now, .ref a_before, .int g_undoMany, .ref a_read, .int v_spot, .ref a_first, .ref a_second, .ref a_sums, .ref a_other, .int g_step, .int g_coverMany, .ref a_grid, .ref a_order, .int g_leastSums, .int g_leastPart])), (a_text, .inl (cI, 200, .inl g_text)), (a_read, .inl (cZ, 164, .inl v_read))]) ([.ref a_this, .int q1] : List Value).toArray s 0 0 A) (F0 m 58 ls []) := by
    intro x1 x2 g_length g_text
    obtain ⟨F58, eF58⟩ : ∃ F : (Int32 × Int32 × (Nat → Int32)) → Prop, F = fun q => ∀ (H : Heap) (locs : List Loc) (ls : Array Slot), va_P D vwCl [(a_this, .inr (8, [.int g_length, .ref a_text, .ref a_now, .ref a_before, .int g_undoMany, .ref a_read, .int q.2.1, .ref a_first, .ref a_second, .ref a_sums, .ref a_other, .int g_step, .int g_coverMany, .ref a_grid, .ref a_order, .int g_leastSums, .int g_leastPart])), (a_text, .inl (cI, 200, .inl g_text)), (a_read, .inl (cZ, 164, .inl q.2.2))] H → va_D A [(a_this, .inr (8, [.int g_length, .ref a_text, .ref a_now, .ref a_before, .int g_undoMany, .ref a_read, .int q.2.1, .ref a_first, .ref a_second, .ref a_sums, .ref a_other, .int g_step, .int g_coverMany, .ref a_grid, .ref a_order, .int g_leastSums, .int g_leastPart])), (a_text, .inl (cI, 200, .inl g_text)), (a_read, .inl (cZ, 164, .inl q.2.2))] → va_S A s.heap H locs → lv_has ls 5 [(0, .ref a_this), (1, .int x1), (2, .int x2), (3, .int q.1)] → W p l e rmX8_item s m ([.ref a_this, .int q1] : List Value).toArray below meth c H locs 0 0 (MQ below (cQi D r0 A [(a_this, .inr (8, [.int g_length, .ref a_text, .ref a_now, .ref a_before, .int g_undoMany, .ref a_read, .int v_spot, .ref a_first, .ref a_second, .ref a_sums, .ref a_other, .int g_step, .int g_coverMany, .ref a_grid, .ref a_order, .int g_leastSums, .int g_leastPart])), (a_text, .inl (cI, 200, .inl g_text)), (a_read, .inl (cZ, 164, .inl v_read))]) ([.ref a_this, .int q1] : List Value).toArray s 0 0 A) (F0 m 58 ls []) := ⟨_, rfl⟩
    have key : ∀ (q : Int32 × Int32 × (Nat → Int32)) (t : Int32 × Int32 × (Nat → Int32)), run (sX8_item_58 x1 x2 g_length g_text) q = some t → (fun z => z = (r0, v_spot, v_read)) t → F58 q := by
      refine loop_rule (sX8_item_58 x1 x2 g_length g_text) F58 (fun z => z = (r0, v_spot, v_read)) ?_
      intro q t hf hF
      have hF : (Sum.elim F58 (fun z => z = (r0, v_spot, v_read))) t := hF
      have w119 : ∀ (k0 : Int32) (g_spot : Int32) (g_read : Nat → Int32) (t : (Int32 × Int32 × (Nat → Int32)) ⊕ (Int32 × Int32 × (Nat → Int32))) (H : Heap) (locs : List Loc) (ls : Array Slot), bX8_item_119 x1 x2 k0 g_length g_spot g_text g_read = some t → (Sum.elim F58 (fun z => z = (r0, v_spot, v_read))) t → va_P D vwCl [(a_this, .inr (8, [.int g_length, .ref a_text, .ref a_now, .ref a_before, .int g_undoMany, .ref a_read, .int g_spot, .ref a_first, .ref a_second, .ref a_sums, .ref a_other, .int g_step, .int g_coverMany, .ref a_grid, .ref a_order, .int g_leastSums, .int g_leastPart])), (a_text, .inl (cI, 200, .inl g_text)), (a_read, .inl (cZ, 164, .inl g_read))] H → va_D A [(a_this, .inr (8, [.int g_length, .ref a_text, .ref a_now, .ref a_before, .int g_undoMany, .ref a_read, .int g_spot, .ref a_first, .ref a_second, .ref a_sums, .ref a_other, .int g_step, .int g_coverMany, .ref a_grid, .ref a_order, .int g_leastSums, .int g_leastPart])), (a_text, .inl (cI, 200, .inl g_text)), (a_read, .inl (cZ, 164, .inl g_read))] → va_S A s.heap H locs → lv_has ls 5 [(0, .ref a_this), (1, .int x1), (2, .int x2)] → W p l e rmX8_item s m ([.ref a_this, .int q1] : List Value).toArray below meth c H locs 0 0 (MQ below (cQi D r0 A [(a_this, .inr (8, [.int g_length, .ref a_text, .ref a_now, .ref a_before, .int g_undoMany, .ref a_read, .int v_spot, .ref a_first, .ref a_second, .ref a_sums, .ref a_other, .int g_step, .int g_coverMany, .ref a_grid, .ref a_order, .int g_leastSums, .int g_leastPart])), (a_text, .inl (cI, 200, .inl g_text)), (a_read, .inl (cZ, 164, .inl v_read))]) ([.ref a_this, .int q1] : List Value).toArray s 0 0 A) (F0 m 119 ls [.int k0]) := by
        intro k0 g_spot g_read t H locs ls hf hF hP hD hS hl
        unfold bX8_item_119 at hf
        refine lv_istore (lv' := [(4, .int k0), (0, .ref a_this), (1, .int x1), (2, .int x2)]) hx hb dX8_item_119 hl (by decide) rfl (fun ls hl => ?_)
        refine lv_iload hx hb dX8_item_121 (lv_at hl 0 rfl) ?_
        refine lv_iconst (v := -1) hx hb dX8_item_123 (by decide) ?_
        refine lv_icmp_ne (tgt := 129) hx hb dX8_item_124 (by decide) (fun c1 => ?_) (fun c1 => ?_)
        · have hf := br_neg c1 hf
          refine lv_aload_n hx hb dX8_item_129 rfl (lv_at hl 1 rfl) ?_
          refine va_get (D := D) (ci := 8) (v := .ref a_read) (C := RX8) (T := TX8) (N := 17) hx hb hts z1 hown hN.1 hP 0 rfl rfl 5 (by decide) z2 (fun _ h9 => h9) rfl dX8_item_130 ?_
          refine lv_bipush (v := 41) hx hb dX8_item_133 (by decide) ?_
          refine lv_iload_n hx hb dX8_item_135 rfl (lv_at hl 3 rfl) ?_
          refine lv_imul hx hb dX8_item_136 ?_
          refine lv_iload hx hb dX8_item_137 (lv_at hl 0 rfl) ?_
          refine lv_iadd hx hb dX8_item_139 ?_
          refine lv_iconst (v := 1) hx hb dX8_item_140 (by decide) ?_
          obtain ⟨c2, hf⟩ := gd_some hf
          refine va_zast hx hb hN.1 hP hD hS 2 3 rfl rfl (ix_in c2) dX8_item_141 (fun H locs hP hD hS => ?_)
          obtain ⟨y3, ey3⟩ : ∃ z, z = upd g_read (((41 : Int32) * x2) + k0).toNatClampNeg (vp_nar .boolean (1 : Int32)) := ⟨_, rfl⟩
          have hf := lt_some hf y3 ey3
          have hP : va_P D vwCl [(a_this, .inr (8, [.int g_length, .ref a_text, .ref a_now, .ref a_before, .int g_undoMany, .ref a_read, .int g_spot, .ref a_first, .ref a_second, .ref a_sums, .ref a_other, .int g_step, .int g_coverMany, .ref a_grid, .ref a_order, .int g_leastSums, .int g_leastPart])), (a_text, .inl (cI, 200, .inl g_text)), (a_read, .inl (cZ, 164, .inl y3))] H := by rw [ey3]; exact hP
          have hD : va_D A [(a_this, .inr (8, [.int g_length, .ref a_text, .ref a_now, .ref a_before, .int g_undoMany, .ref a_read, .int g_spot, .ref a_first, .ref a_second, .ref a_sums, .ref a_other, .int g_step, .int g_coverMany, .ref a_grid, .ref a_order, .int g_leastSums, .int g_leastPart])), (a_text, .inl (cI, 200, .inl g_text)), (a_read, .inl (cZ, 164, .inl y3))] := by rw [ey3]; exact hD
          refine lv_iload hx hb dX8_item_142 (lv_at hl 0 rfl) ?_
          refine lv_istore_n (lv' := [(3, .int k0), (4, .int k0), (0, .ref a_this), (1, .int x1), (2, .int x2)]) hx hb dX8_item_144 rfl hl (by decide) rfl (fun ls hl => ?_)
          refine lv_goto (tgt := 58) hx hb dX8_item_145 (by decide) ?_
          cases hf
          exact ((congrFun eF58 _).mp hF) H locs ls hP hD hS (lv_sub hl [2, 3, 4, 0] rfl)
        · have hf := br_pos c1 hf
          refine lv_iconst (v := 0) hx hb dX8_item_127 (by decide) ?_
          obtain ⟨c4, hf⟩ := gd_some hf
          cases hf
          have hE : ((0 : Int32), g_spot, g_read) = (r0, v_spot, v_read) := hF
          simp only [Prod.mk.injEq] at hE
          obtain ⟨rfl, rfl, rfl⟩ := hE
          exact rtZ hx hb hr hlk c4 hP hD hS dX8_item_128
      have w81 : ∀ (x3 : Int32) (g_spot : Int32) (g_read : Nat → Int32) (t : (Int32 × Int32 × (Nat → Int32)) ⊕ (Int32 × Int32 × (Nat → Int32))) (H : Heap) (locs : List Loc) (ls : Array Slot), bX8_item_81 x1 x2 x3 g_length g_spot g_text g_read = some t → (Sum.elim F58 (fun z => z = (r0, v_spot, v_read))) t → va_P D vwCl [(a_this, .inr (8, [.int g_length, .ref a_text, .ref a_now, .ref a_before, .int g_undoMany, .ref a_read, .int g_spot, .ref a_first, .ref a_second, .ref a_sums, .ref a_other, .int g_step, .int g_coverMany, .ref a_grid, .ref a_order, .int g_leastSums, .int g_leastPart])), (a_text, .inl (cI, 200, .inl g_text)), (a_read, .inl (cZ, 164, .inl g_read))] H → va_D A [(a_this, .inr (8, [.int g_length, .ref a_text, .ref a_now, .ref a_before, .int g_undoMany, .ref a_read, .int g_spot, .ref a_first, .ref a_second, .ref a_sums, .ref a_other, .int g_step, .int g_coverMany, .ref a_grid, .ref a_order, .int g_leastSums, .int g_leastPart])), (a_text, .inl (cI, 200, .inl g_text)), (a_read, .inl (cZ, 164, .inl g_read))] → va_S A s.heap H locs → lv_has ls 5 [(0, .ref a_this), (1, .int x1), (2, .int x2), (3, .int x3)] → W p l e rmX8_item s m ([.ref a_this, .int q1] : List Value).toArray below meth c H locs 0 0 (MQ below (cQi D r0 A [(a_this, .inr (8, [.int g_length, .ref a_text, .ref a_now, .ref a_before, .int g_undoMany, .ref a_read, .int v_spot, .ref a_first, .ref a_second, .ref a_sums, .ref a_other, .int g_step, .int g_coverMany, .ref a_grid, .ref a_order, .int g_leastSums, .int g_leastPart])), (a_text, .inl (cI, 200, .inl g_text)), (a_read, .inl (cZ, 164, .inl v_read))]) ([.ref a_this, .int q1] : List Value).toArray s 0 0 A) (F0 m 81 ls []) := by
        intro x3 g_spot g_read t H locs ls hf hF hP hD hS hl
        unfold bX8_item_81 at hf
        refine lv_aload_n hx hb dX8_item_81 rfl (lv_at hl 0 rfl) ?_
        refine lv_dup hx hb dX8_item_82 rfl ?_
        refine va_get (D := D) (ci := 8) (v := .int g_spot) (C := RX8) (T := TX8) (N := 17) hx hb hts z1 hown hN.1 hP 0 rfl rfl 6 (by decide) z3 (fun _ h9 => h9) rfl dX8_item_83 ?_
        refine lv_iconst (v := 1) hx hb dX8_item_86 (by decide) ?_
        refine lv_iadd hx hb dX8_item_87 ?_
        refine lv_topi (fun y5 ey5 => ?_)
        have hf := lt_some hf y5 ey5
        refine va_put (D := D) (ci := 8) (v := .int y5) (ty := .int) (C := RX8) (T := TX8) (N := 17) hx hb hts z1 tyX8 tyX8_ok nmX8 hown hN.1 hP hD hS 0 rfl rfl 6 (by decide) z3 (fun _ h9 => h9) rfl (by decide +kernel) rfl rfl (Nat.le_of_ble_eq_true rfl) dX8_item_88 (fun H locs hP hD hS => ?_)
        have hP : va_P D vwCl [(a_this, .inr (8, [.int g_length, .ref a_text, .ref a_now, .ref a_before, .int g_undoMany, .ref a_read, .int y5, .ref a_first, .ref a_second, .ref a_sums, .ref a_other, .int g_step, .int g_coverMany, .ref a_grid, .ref a_order, .int g_leastSums, .int g_leastPart])), (a_text, .inl (cI, 200, .inl g_text)), (a_read, .inl (cZ, 164, .inl g_read))] H := hP
        have hD : va_D A [(a_this, .inr (8, [.int g_length, .ref a_text, .ref a_now, .ref a_before, .int g_undoMany, .ref a_read, .int y5, .ref a_first, .ref a_second, .ref a_sums, .ref a_other, .int g_step, .int g_coverMany, .ref a_grid, .ref a_order, .int g_leastSums, .int g_leastPart])), (a_text, .inl (cI, 200, .inl g_text)), (a_read, .inl (cZ, 164, .inl g_read))] := hD
        refine lv_aload_n hx hb dX8_item_91 rfl (lv_at hl 0 rfl) ?_
        refine lv_aload_n hx hb dX8_item_92 rfl (lv_at hl 0 rfl) ?_
        refine va_get (D := D) (ci := 8) (v := .int y5) (C := RX8) (T := TX8) (N := 17) hx hb hts z1 hown hN.1 hP 0 rfl rfl 6 (by decide) z3 (fun _ h9 => h9) rfl dX8_item_93 ?_
        refine lv_iconst (v := 1) hx hb dX8_item_96 (by decide) ?_
        refine lv_isub hx hb dX8_item_97 ?_
        obtain ⟨u6, hu6, hf⟩ := bd_some hf
        refine caVI (rest := []) (As := [.int (y5 - (1 : Int32))]) (wr := [(a_read, .inl (cZ, 164, .inl g_read))]) (wo := [(a_this, .inr (8, [.int g_length, .ref a_text, .ref a_now, .ref a_before, .int g_undoMany, .ref a_read, .int y5, .ref a_first, .ref a_second, .ref a_sums, .ref a_other, .int g_step, .int g_coverMany, .ref a_grid, .ref a_order, .int g_leastSums, .int g_leastPart])), (a_text, .inl (cI, 200, .inl g_text)), (a_read, .inl (cZ, 164, .inl g_read))]) ⟨hx, hb, hml, hown, hts⟩ hN hP hD hS hA (cX8_byteAt_ct l D cI cL cC cZ a_this a_text a_now a_before a_read a_first a_second a_sums a_other a_grid a_order g_length g_undoMany y5 g_step g_coverMany g_leastSums g_leastPart g_text (y5 - (1 : Int32)) u6 hu6) z4 0 8 rfl rfl [0, 1] [2] [1, 2, 0] rfl (by decide) rfl (by decide) (by decide) rfl (by decide) rfl hl.1 rfl (Nat.le_of_ble_eq_true rfl) dX8_item_98 ⟨Nat.zero_le _, Nat.zero_le _⟩ (fun H locs hP hD hS => ?_)
        refine lv_bipush (v := 44) hx hb dX8_item_101 (by decide) ?_
        refine lv_icmp_ne (tgt := 118) hx hb dX8_item_103 (by decide) (fun c7 => ?_) (fun c7 => ?_)
        · have hf := br_neg c7 hf
          refine lv_iconst (v := -1) hx hb dX8_item_118 (by decide) ?_
          exact w119 (-1 : Int32) y5 g_read _ H locs ls hf hF hP hD hS (lv_sub hl [0, 1, 2] rfl)
        · have hf := br_pos c7 hf
          refine lv_aload_n hx hb dX8_item_106 rfl (lv_at hl 0 rfl) ?_
          refine lv_iload_n hx hb dX8_item_107 rfl (lv_at hl 3 rfl) ?_
          refine lv_iconst (v := 1) hx hb dX8_item_108 (by decide) ?_
          refine lv_iadd hx hb dX8_item_109 ?_
          refine lv_bipush (v := 40) hx hb dX8_item_110 (by decide) ?_
          obtain ⟨u8, hu8, hf⟩ := bd_some hf
          refine caVI (rest := []) (As := [.int (x3 + (1 : Int32)), .int (40 : Int32)]) (wr := [(a_read, .inl (cZ, 164, .inl g_read))]) (wo := [(a_this, .inr (8, [.int g_length, .ref a_text, .ref a_now, .ref a_before, .int g_undoMany, .ref a_read, .int u8.2, .ref a_first, .ref a_second, .ref a_sums, .ref a_other, .int g_step, .int g_coverMany, .ref a_grid, .ref a_order, .int g_leastSums, .int g_leastPart])), (a_text, .inl (cI, 200, .inl g_text)), (a_read, .inl (cZ, 164, .inl g_read))]) ⟨hx, hb, hml, hown, hts⟩ hN hP hD hS hA (cX8_number_ct l D cI cL cC cZ a_this a_text a_now a_before a_read a_first a_second a_sums a_other a_grid a_order g_length g_undoMany y5 g_step g_coverMany g_leastSums g_leastPart g_text (x3 + (1 : Int32)) (40 : Int32) u8.1 u8.2 hu8) z5 0 8 rfl rfl [0, 1] [2] [1, 2, 0] rfl (by decide) rfl (by decide) (by decide) rfl (by decide) rfl hl.1 rfl (Nat.le_of_ble_eq_true rfl) dX8_item_112 ⟨Nat.zero_le _, Nat.zero_le _⟩ (fun H locs hP hD hS => ?_)
          refine lv_goto (tgt := 119) hx hb dX8_item_115 (by decide) ?_
          exact w119 u8.1 u8.2 g_read _ H locs ls hf hF hP hD hS (lv_sub hl [0, 1, 2] rfl)
      rw [eF58]
      obtain ⟨x3, g_spot, g_read⟩ := q
      intro H locs ls hP hD hS hl
      have hP : va_P D vwCl [(a_this, .inr (8, [.int g_length, .ref a_text, .ref a_now, .ref a_before, .int g_undoMany, .ref a_read, .int g_spot, .ref a_first, .ref a_second, .ref a_sums, .ref a_other, .int g_step, .int g_coverMany, .ref a_grid, .ref a_order, .int g_leastSums, .int g_leastPart])), (a_text, .inl (cI, 200, .inl g_text)), (a_read, .inl (cZ, 164, .inl g_read))] H := hP
      have hD : va_D A [(a_this, .inr (8, [.int g_length, .ref a_text, .ref a_now, .ref a_before, .int g_undoMany, .ref a_read, .int g_spot, .ref a_first, .ref a_second, .ref a_sums, .ref a_other, .int g_step, .int g_coverMany, .ref a_grid, .ref a_order, .int g_leastSums, .int g_leastPart])), (a_text, .inl (cI, 200, .inl g_text)), (a_read, .inl (cZ, 164, .inl g_read))] := hD
      have hl : lv_has ls 5 [(0, .ref a_this), (1, .int x1), (2, .int x2), (3, .int x3)] := hl
      have hf : bX8_item_58 x1 x2 g_length g_text x3 g_spot g_read = some t := hf
      unfold bX8_item_58 at hf
      refine lv_iload_n hx hb dX8_item_58 rfl (lv_at hl 1 rfl) ?_
      refine lv_bipush (v := 115) hx hb dX8_item_59 (by decide) ?_
      refine lv_icmp_ne (tgt := 148) hx hb dX8_item_61 (by decide) (fun c9 => ?_) (fun c9 => ?_)
      · have hf := br_neg c9 hf
        refine lv_iconst (v := 1) hx hb dX8_item_148 (by decide) ?_
        obtain ⟨c10, hf⟩ := gd_some hf
        cases hf
        have hE : ((1 : Int32), g_spot, g_read) = (r0, v_spot, v_read) := hF
        simp only [Prod.mk.injEq] at hE
        obtain ⟨rfl, rfl, rfl⟩ := hE
        exact rtZ hx hb hr hlk c10 hP hD hS dX8_item_149
      · have hf := br_pos c9 hf
        refine lv_iload_n hx hb dX8_item_64 rfl (lv_at hl 3 rfl) ?_
        refine lv_if_lt (tgt := 81) hx hb dX8_item_65 (by decide) (fun c11 => ?_) (fun c11 => ?_)
        · have hf := br_pos c11 hf
          exact w81 x3 g_spot g_read _ H locs ls hf hF hP hD hS (lv_sub hl [0, 1, 2, 3] rfl)
        · have hf := br_neg c11 hf
          refine lv_aload_n hx hb dX8_item_68 rfl (lv_at hl 0 rfl) ?_
          refine lv_aload_n hx hb dX8_item_69 rfl (lv_at hl 0 rfl) ?_
          refine va_get (D := D) (ci := 8) (v := .int g_spot) (C := RX8) (T := TX8) (N := 17) hx hb hts z1 hown hN.1 hP 0 rfl rfl 6 (by decide) z3 (fun _ h9 => h9) rfl dX8_item_70 ?_
          obtain ⟨u12, hu12, hf⟩ := bd_some hf
          refine caVI (rest := []) (As := [.int g_spot]) (wr := [(a_read, .inl (cZ, 164, .inl g_read))]) (wo := [(a_this, .inr (8, [.int g_length, .ref a_text, .ref a_now, .ref a_before, .int g_undoMany, .ref a_read, .int g_spot, .ref a_first, .ref a_second, .ref a_sums, .ref a_other, .int g_step, .int g_coverMany, .ref a_grid, .ref a_order, .int g_leastSums, .int g_leastPart])), (a_text, .inl (cI, 200, .inl g_text)), (a_read, .inl (cZ, 164, .inl g_read))]) ⟨hx, hb, hml, hown, hts⟩ hN hP hD hS hA (cX8_byteAt_ct l D cI cL cC cZ a_this a_text a_now a_before a_read a_first a_second a_sums a_other a_grid a_order g_length g_undoMany g_spot g_step g_coverMany g_leastSums g_leastPart g_text g_spot u12 hu12) z4 0 8 rfl rfl [0, 1] [2] [1, 2, 0] rfl (by decide) rfl (by decide) (by decide) rfl (by decide) rfl hl.1 rfl (Nat.le_of_ble_eq_true rfl) dX8_item_73 ⟨Nat.zero_le _, Nat.zero_le _⟩ (fun H locs hP hD hS => ?_)
          refine lv_bipush (v := 44) hx hb dX8_item_76 (by decide) ?_
          refine lv_icmp_ne (tgt := 148) hx hb dX8_item_78 (by decide) (fun c13 => ?_) (fun c13 => ?_)
          · have hf := br_neg c13 hf
            refine lv_iconst (v := 1) hx hb dX8_item_148 (by decide) ?_
            obtain ⟨c14, hf⟩ := gd_some hf
            cases hf
            have hE : ((1 : Int32), g_spot, g_read) = (r0, v_spot, v_read) := hF
            simp only [Prod.mk.injEq] at hE
            obtain ⟨rfl, rfl, rfl⟩ := hE
            exact rtZ hx hb hr hlk c14 hP hD hS dX8_item_149
          · have hf := br_pos c13 hf
            exact w81 x3 g_spot g_read _ H locs ls hf hF hP hD hS (lv_sub hl [0, 1, 2, 3] rfl)
    intro x3 g_spot g_read t H locs ls hf hF hP hD hS hl
    exact ((congrFun eF58 _).mp (key ((x3, g_spot, g_read)) t hf hF)) H locs ls hP hD hS hl
  have w32 : ∀ (x1 : Int32) (x2 : Int32) (g_length : Int32) (g_spot : Int32) (g_text : Nat → Int32) (x3 : Int32) (g_read : Nat → Int32) (t : Int32 × Int32 × (Nat → Int32)) (H : Heap) (locs : List Loc) (ls : Array Slot), run (sX8_item_32 x1 x2 g_length g_spot g_text) ((x3, g_read)) = some t → (fun z => z = (r0, v_spot, v_read)) t → va_P D vwCl [(a_this, .inr (8, [.int g_length, .ref a_text, .ref a_now, .ref a_before, .int g_undoMany, .ref a_read, .int g_spot, .ref a_first, .ref a_second, .ref a_sums, .ref a_other, .int g_step, .int g_coverMany, .ref a_grid, .ref a_order, .int g_leastSums, .int g_leastPart])), (a_text, .inl (cI, 200, .inl g_text)), (a_read, .inl (cZ, 164, .inl g_read))] H → va_D A [(a_this, .inr (8, [.int g_length, .ref a_text, .ref a_now, .ref a_before, .int g_undoMany, .ref a_read, .int g_spot, .ref a_first, .ref a_second, .ref a_sums, .ref a_other, .int g_step, .int g_coverMany, .ref a_grid, .ref a_order, .int g_leastSums, .int g_leastPart])), (a_text, .inl (cI, 200, .inl g_text)), (a_read, .inl (cZ, 164, .inl g_read))] → va_S A s.heap H locs → lv_has ls 5 [(0, .ref a_this), (1, .int x1), (2, .int x2), (3, .int x3)] → W p l e rmX8_item s m ([.ref a_this, .int q1] : List Value).toArray below meth c H locs 0 0 (MQ below (cQi D r0 A [(a_this, .inr (8, [.int g_length, .ref a_text, .ref a_now, .ref a_before, .int g_undoMany, .ref a_read, .int v_spot, .ref a_first, .ref a_second, .ref a_sums, .ref a_other, .int g_step, .int g_coverMany, .ref a_grid, .ref a_order, .int g_leastSums, .int g_leastPart])), (a_text, .inl (cI, 200, .inl g_text)), (a_read, .inl (cZ, 164, .inl v_read))]) ([.ref a_this, .int q1] : List Value).toArray s 0 0 A) (F0 m 32 ls []) := by
    intro x1 x2 g_length g_spot g_text
    obtain ⟨F32, eF32⟩ : ∃ F : (Int32 × (Nat → Int32)) → Prop, F = fun q => ∀ (H : Heap) (locs : List Loc) (ls : Array Slot), va_P D vwCl [(a_this, .inr (8, [.int g_length, .ref a_text, .ref a_now, .ref a_before, .int g_undoMany, .ref a_read, .int g_spot, .ref a_first, .ref a_second, .ref a_sums, .ref a_other, .int g_step, .int g_coverMany, .ref a_grid, .ref a_order, .int g_leastSums, .int g_leastPart])), (a_text, .inl (cI, 200, .inl g_text)), (a_read, .inl (cZ, 164, .inl q.2))] H → va_D A [(a_this, .inr (8, [.int g_length, .ref a_text, .ref a_now, .ref a_before, .int g_undoMany, .ref a_read, .int g_spot, .ref a_first, .ref a_second, .ref a_sums, .ref a_other, .int g_step, .int g_coverMany, .ref a_grid, .ref a_order, .int g_leastSums, .int g_leastPart])), (a_text, .inl (cI, 200, .inl g_text)), (a_read, .inl (cZ, 164, .inl q.2))] → va_S A s.heap H locs → lv_has ls 5 [(0, .ref a_this), (1, .int x1), (2, .int x2), (3, .int q.1)] → W p l e rmX8_item s m ([.ref a_this, .int q1] : List Value).toArray below meth c H locs 0 0 (MQ below (cQi D r0 A [(a_this, .inr (8, [.int g_length, .ref a_text, .ref a_now, .ref a_before, .int g_undoMany, .ref a_read, .int v_spot, .ref a_first, .ref a_second, .ref a_sums, .ref a_other, .int g_step, .int g_coverMany, .ref a_grid, .ref a_order, .int g_leastSums, .int g_leastPart])), (a_text, .inl (cI, 200, .inl g_text)), (a_read, .inl (cZ, 164, .inl v_read))]) ([.ref a_this, .int q1] : List Value).toArray s 0 0 A) (F0 m 32 ls []) := ⟨_, rfl⟩
    have key : ∀ (q : Int32 × (Nat → Int32)) (t : Int32 × Int32 × (Nat → Int32)), run (sX8_item_32 x1 x2 g_length g_spot g_text) q = some t → (fun z => z = (r0, v_spot, v_read)) t → F32 q := by
      refine loop_rule (sX8_item_32 x1 x2 g_length g_spot g_text) F32 (fun z => z = (r0, v_spot, v_read)) ?_
      intro q t hf hF
      have hF : (Sum.elim F32 (fun z => z = (r0, v_spot, v_read))) t := hF
      rw [eF32]
      obtain ⟨x3, g_read⟩ := q
      intro H locs ls hP hD hS hl
      have hP : va_P D vwCl [(a_this, .inr (8, [.int g_length, .ref a_text, .ref a_now, .ref a_before, .int g_undoMany, .ref a_read, .int g_spot, .ref a_first, .ref a_second, .ref a_sums, .ref a_other, .int g_step, .int g_coverMany, .ref a_grid, .ref a_order, .int g_leastSums, .int g_leastPart])), (a_text, .inl (cI, 200, .inl g_text)), (a_read, .inl (cZ, 164, .inl g_read))] H := hP
      have hD : va_D A [(a_this, .inr (8, [.int g_length, .ref a_text, .ref a_now, .ref a_before, .int g_undoMany, .ref a_read, .int g_spot, .ref a_first, .ref a_second, .ref a_sums, .ref a_other, .int g_step, .int g_coverMany, .ref a_grid, .ref a_order, .int g_leastSums, .int g_leastPart])), (a_text, .inl (cI, 200, .inl g_text)), (a_read, .inl (cZ, 164, .inl g_read))] := hD
      have hl : lv_has ls 5 [(0, .ref a_this), (1, .int x1), (2, .int x2), (3, .int x3)] := hl
      have hf : bX8_item_32 x1 x2 g_length g_spot g_text x3 g_read = some t := hf
      unfold bX8_item_32 at hf
      refine lv_iload_n hx hb dX8_item_32 rfl (lv_at hl 3 rfl) ?_
      refine lv_bipush (v := 41) hx hb dX8_item_33 (by decide) ?_
      refine lv_icmp_ge (tgt := 56) hx hb dX8_item_35 (by decide) (fun c15 => ?_) (fun c15 => ?_)
      · have hf := br_pos c15 hf
        refine lv_iconst (v := -1) hx hb dX8_item_56 (by decide) ?_
        refine lv_istore_n (lv' := [(3, .int (-1 : Int32)), (0, .ref a_this), (1, .int x1), (2, .int x2)]) hx hb dX8_item_57 rfl hl (by decide) rfl (fun ls hl => ?_)
        obtain ⟨t16, hf, hF⟩ := ml_fin hf hF
        have hF : t16 = (r0, v_spot, v_read) := hF
        rw [hF] at hf
        exact w58 x1 x2 g_length g_text (-1 : Int32) g_spot g_read (r0, v_spot, v_read) H locs ls hf rfl hP hD hS (lv_sub hl [1, 2, 3, 0] rfl)
      · have hf := br_neg c15 hf
        refine lv_aload_n hx hb dX8_item_38 rfl (lv_at hl 0 rfl) ?_
        refine va_get (D := D) (ci := 8) (v := .ref a_read) (C := RX8) (T := TX8) (N := 17) hx hb hts z1 hown hN.1 hP 0 rfl rfl 5 (by decide) z2 (fun _ h9 => h9) rfl dX8_item_39 ?_
        refine lv_bipush (v := 41) hx hb dX8_item_42 (by decide) ?_
        refine lv_iload_n hx hb dX8_item_44 rfl (lv_at hl 2 rfl) ?_
        refine lv_imul hx hb dX8_item_45 ?_
        refine lv_iload_n hx hb dX8_item_46 rfl (lv_at hl 3 rfl) ?_
        refine lv_iadd hx hb dX8_item_47 ?_
        refine lv_iconst (v := 0) hx hb dX8_item_48 (by decide) ?_
        obtain ⟨c17, hf⟩ := gd_some hf
        refine va_zast hx hb hN.1 hP hD hS 2 3 rfl rfl (ix_in c17) dX8_item_49 (fun H locs hP hD hS => ?_)
        obtain ⟨y18, ey18⟩ : ∃ z, z = upd g_read (((41 : Int32) * x2) + x3).toNatClampNeg (vp_nar .boolean (0 : Int32)) := ⟨_, rfl⟩
        have hf := lt_some hf y18 ey18
        have hP : va_P D vwCl [(a_this, .inr (8, [.int g_length, .ref a_text, .ref a_now, .ref a_before, .int g_undoMany, .ref a_read, .int g_spot, .ref a_first, .ref a_second, .ref a_sums, .ref a_other, .int g_step, .int g_coverMany, .ref a_grid, .ref a_order, .int g_leastSums, .int g_leastPart])), (a_text, .inl (cI, 200, .inl g_text)), (a_read, .inl (cZ, 164, .inl y18))] H := by rw [ey18]; exact hP
        have hD : va_D A [(a_this, .inr (8, [.int g_length, .ref a_text, .ref a_now, .ref a_before, .int g_undoMany, .ref a_read, .int g_spot, .ref a_first, .ref a_second, .ref a_sums, .ref a_other, .int g_step, .int g_coverMany, .ref a_grid, .ref a_order, .int g_leastSums, .int g_leastPart])), (a_text, .inl (cI, 200, .inl g_text)), (a_read, .inl (cZ, 164, .inl y18))] := by rw [ey18]; exact hD
        obtain ⟨y19, ey19⟩ : ∃ z : Int32, z = x3 + (1 : Int32) := ⟨_, rfl⟩
        have hf := lt_some hf y19 ey19
        refine lv_iinc (v := y19) (lv' := [(3, .int y19), (0, .ref a_this), (1, .int x1), (2, .int x2)]) hx hb dX8_item_50 hl (k := 3) rfl (by rw [ey19]; rfl) (by decide) rfl (fun ls hl => ?_)
        refine lv_goto (tgt := 32) hx hb dX8_item_53 (by decide) ?_
        cases hf
        exact ((congrFun eF32 _).mp hF) H locs ls hP hD hS (lv_sub hl [1, 2, 3, 0] rfl)
    intro x3 g_read t H locs ls hf hF hP hD hS hl
    exact ((congrFun eF32 _).mp (key ((x3, g_read)) t hf hF)) H locs ls hP hD hS hl
  have w22 : ∀ (x1 : Int32) (k0 : Int32) (g_length : Int32) (g_spot : Int32) (g_text : Nat → Int32) (g_read : Nat → Int32) (H : Heap) (locs : List Loc) (ls : Array Slot), bX8_item_22 x1 k0 g_length g_spot g_text g_read = some ((r0, v_spot, v_read)) → va_P D vwCl [(a_this, .inr (8, [.int g_length, .ref a_text, .ref a_now, .ref a_before, .int g_undoMany, .ref a_read, .int g_spot, .ref a_first, .ref a_second, .ref a_sums, .ref a_other, .int g_step, .int g_coverMany, .ref a_grid, .ref a_order, .int g_leastSums, .int g_leastPart])), (a_text, .inl (cI, 200, .inl g_text)), (a_read, .inl (cZ, 164, .inl g_read))] H → va_D A [(a_this, .inr (8, [.int g_length, .ref a_text, .ref a_now, .ref a_before, .int g_undoMany, .ref a_read, .int g_spot, .ref a_first, .ref a_second, .ref a_sums, .ref a_other, .int g_step, .int g_coverMany, .ref a_grid, .ref a_order, .int g_leastSums, .int g_leastPart])), (a_text, .inl (cI, 200, .inl g_text)), (a_read, .inl (cZ, 164, .inl g_read))] → va_S A s.heap H locs → lv_has ls 5 [(0, .ref a_this), (1, .int x1)] → W p l e rmX8_item s m ([.ref a_this, .int q1] : List Value).toArray below meth c H locs 0 0 (MQ below (cQi D r0 A [(a_this, .inr (8, [.int g_length, .ref a_text, .ref a_now, .ref a_before, .int g_undoMany, .ref a_read, .int v_spot, .ref a_first, .ref a_second, .ref a_sums, .ref a_other, .int g_step, .int g_coverMany, .ref a_grid, .ref a_order, .int g_leastSums, .int g_leastPart])), (a_text, .inl (cI, 200, .inl g_text)), (a_read, .inl (cZ, 164, .inl v_read))]) ([.ref a_this, .int q1] : List Value).toArray s 0 0 A) (F0 m 22 ls [.int k0]) := by
    intro x1 k0 g_length g_spot g_text g_read H locs ls hf hP hD hS hl
    unfold bX8_item_22 at hf
    refine lv_istore_n (lv' := [(2, .int k0), (0, .ref a_this), (1, .int x1)]) hx hb dX8_item_22 rfl hl (by decide) rfl (fun ls hl => ?_)
    refine lv_iload_n hx hb dX8_item_23 rfl (lv_at hl 0 rfl) ?_
    refine lv_iconst (v := -1) hx hb dX8_item_24 (by decide) ?_
    refine lv_icmp_ne (tgt := 30) hx hb dX8_item_25 (by decide) (fun c20 => ?_) (fun c20 => ?_)
    · have hf := br_neg c20 hf
      refine lv_iconst (v := 0) hx hb dX8_item_30 (by decide) ?_
      refine lv_istore_n (lv' := [(3, .int (0 : Int32)), (2, .int k0), (0, .ref a_this), (1, .int x1)]) hx hb dX8_item_31 rfl hl (by decide) rfl (fun ls hl => ?_)
      exact w32 x1 k0 g_length g_spot g_text (0 : Int32) g_read (r0, v_spot, v_read) H locs ls hf rfl hP hD hS (lv_sub hl [2, 3, 1, 0] rfl)
    · have hf := br_pos c20 hf
      refine lv_iconst (v := 0) hx hb dX8_item_28 (by decide) ?_
      obtain ⟨c21, hf⟩ := gd_some hf
      have hE : ((0 : Int32), g_spot, g_read) = (r0, v_spot, v_read) := Option.some.inj hf
      simp only [Prod.mk.injEq] at hE
      obtain ⟨rfl, rfl, rfl⟩ := hE
      exact rtZ hx hb hr hlk c21 hP hD hS dX8_item_29
  have w12 : ∀ (x1 : Int32) (g_length : Int32) (g_spot : Int32) (g_text : Nat → Int32) (g_read : Nat → Int32) (H : Heap) (locs : List Loc) (ls : Array Slot), bX8_item_12 x1 g_length g_spot g_text g_read = some ((r0, v_spot, v_read)) → va_P D vwCl [(a_this, .inr (8, [.int g_length, .ref a_text, .ref a_now, .ref a_before, .int g_undoMany, .ref a_read, .int g_spot, .ref a_first, .ref a_second, .ref a_sums, .ref a_other, .int g_step, .int g_coverMany, .ref a_grid, .ref a_order, .int g_leastSums, .int g_leastPart])), (a_text, .inl (cI, 200, .inl g_text)), (a_read, .inl (cZ, 164, .inl g_read))] H → va_D A [(a_this, .inr (8, [.int g_length, .ref a_text, .ref a_now, .ref a_before, .int g_undoMany, .ref a_read, .int g_spot, .ref a_first, .ref a_second, .ref a_sums, .ref a_other, .int g_step, .int g_coverMany, .ref a_grid, .ref a_order, .int g_leastSums, .int g_leastPart])), (a_text, .inl (cI, 200, .inl g_text)), (a_read, .inl (cZ, 164, .inl g_read))] → va_S A s.heap H locs → lv_has ls 5 [(0, .ref a_this), (1, .int x1)] → W p l e rmX8_item s m ([.ref a_this, .int q1] : List Value).toArray below meth c H locs 0 0 (MQ below (cQi D r0 A [(a_this, .inr (8, [.int g_length, .ref a_text, .ref a_now, .ref a_before, .int g_undoMany, .ref a_read, .int v_spot, .ref a_first, .ref a_second, .ref a_sums, .ref a_other, .int g_step, .int g_coverMany, .ref a_grid, .ref a_order, .int g_leastSums, .int g_leastPart])), (a_text, .inl (cI, 200, .inl g_text)), (a_read, .inl (cZ, 164, .inl v_read))]) ([.ref a_this, .int q1] : List Value).toArray s 0 0 A) (F0 m 12 ls []) := by
    intro x1 g_length g_spot g_text g_read H locs ls hf hP hD hS hl
    unfold bX8_item_12 at hf
    refine lv_aload_n hx hb dX8_item_12 rfl (lv_at hl 0 rfl) ?_
    refine lv_iconst (v := 0) hx hb dX8_item_13 (by decide) ?_
    refine lv_iconst (v := 3) hx hb dX8_item_14 (by decide) ?_
    obtain ⟨u22, hu22, hf⟩ := bd_some hf
    refine caVI (rest := []) (As := [.int (0 : Int32), .int (3 : Int32)]) (wr := [(a_read, .inl (cZ, 164, .inl g_read))]) (wo := [(a_this, .inr (8, [.int g_length, .ref a_text, .ref a_now, .ref a_before, .int g_undoMany, .ref a_read, .int u22.2, .ref a_first, .ref a_second, .ref a_sums, .ref a_other, .int g_step, .int g_coverMany, .ref a_grid, .ref a_order, .int g_leastSums, .int g_leastPart])), (a_text, .inl (cI, 200, .inl g_text)), (a_read, .inl (cZ, 164, .inl g_read))]) ⟨hx, hb, hml, hown, hts⟩ hN hP hD hS hA (cX8_number_ct l D cI cL cC cZ a_this a_text a_now a_before a_read a_first a_second a_sums a_other a_grid a_order g_length g_undoMany g_spot g_step g_coverMany g_leastSums g_leastPart g_text (0 : Int32) (3 : Int32) u22.1 u22.2 hu22) z5 0 8 rfl rfl [0, 1] [2] [1, 2, 0] rfl (by decide) rfl (by decide) (by decide) rfl (by decide) rfl hl.1 rfl (Nat.le_of_ble_eq_true rfl) dX8_item_15 ⟨Nat.zero_le _, Nat.zero_le _⟩ (fun H locs hP hD hS => ?_)
    refine lv_goto (tgt := 22) hx hb dX8_item_18 (by decide) ?_
    exact w22 x1 u22.1 g_length u22.2 g_text g_read H locs ls hf hP hD hS (lv_sub hl [0, 1] rfl)
  unfold fX8_item at hf
  obtain ⟨H, eH⟩ : ∃ z, z = s.heap := ⟨_, rfl⟩
  obtain ⟨locs, eL⟩ : ∃ z : List Loc, z = [] := ⟨_, rfl⟩
  have hP : va_P D vwCl [(a_this, .inr (8, [.int g_length, .ref a_text, .ref a_now, .ref a_before, .int g_undoMany, .ref a_read, .int g_spot, .ref a_first, .ref a_second, .ref a_sums, .ref a_other, .int g_step, .int g_coverMany, .ref a_grid, .ref a_order, .int g_leastSums, .int g_leastPart])), (a_text, .inl (cI, 200, .inl g_text)), (a_read, .inl (cZ, 164, .inl g_read))] H := by rw [eH]; exact hP
  have hS : va_S A s.heap H locs := by rw [eH, eL]; exact hS
  suffices hG : W p l e rmX8_item s m ([.ref a_this, .int q1] : List Value).toArray below meth c H locs 0 0 (MQ below (cQi D r0 A [(a_this, .inr (8, [.int g_length, .ref a_text, .ref a_now, .ref a_before, .int g_undoMany, .ref a_read, .int v_spot, .ref a_first, .ref a_second, .ref a_sums, .ref a_other, .int g_step, .int g_coverMany, .ref a_grid, .ref a_order, .int g_leastSums, .int g_leastPart])), (a_text, .inl (cI, 200, .inl g_text)), (a_read, .inl (cZ, 164, .inl v_read))]) ([.ref a_this, .int q1] : List Value).toArray s 0 0 A) (F0 m 0 ls []) by rw [eH, eL] at hG; exact hG
  refine lv_iload_n hx hb dX8_item_0 rfl (lv_at hl 1 rfl) ?_
  refine lv_bipush (v := 115) hx hb dX8_item_1 (by decide) ?_
  refine lv_icmp_eq (tgt := 12) hx hb dX8_item_3 (by decide) (fun c23 => ?_) (fun c23 => ?_)
  · have hf := br_pos c23 hf
    exact w12 q1 g_length g_spot g_text g_read H locs ls hf hP hD hS (lv_sub hl [0, 1] rfl)
  · have hf := br_neg c23 hf
    refine lv_iload_n hx hb dX8_item_6 rfl (lv_at hl 1 rfl) ?_
    refine lv_bipush (v := 101) hx hb dX8_item_7 (by decide) ?_
    refine lv_icmp_ne (tgt := 21) hx hb dX8_item_9 (by decide) (fun c24 => ?_) (fun c24 => ?_)
    · have hf := br_neg c24 hf
      refine lv_iconst (v := -1) hx hb dX8_item_21 (by decide) ?_
      exact w22 q1 (-1 : Int32) g_length g_spot g_text g_read H locs ls hf hP hD hS (lv_sub hl [0, 1] rfl)
    · have hf := br_pos c24 hf
      exact w12 q1 g_length g_spot g_text g_read H locs ls hf hP hD hS (lv_sub hl [0, 1] rfl)
abbrev rmX8_fault : Room := { frames := 3, cells := 0, slots := 0, locals := 73 }
noncomputable def bX8_fault_27 (g_length : Int32) (g_text : Nat → Int32) (g_spot : Int32) (g_read : Nat → Int32) : Option ((Int32 × (Nat → Int32)) ⊕ (Int32 × Int32 × (Nat → Int32))) := br (g_length ≤ g_spot) (some (Sum.inr (((-4 : Int32), g_spot, g_read)))) (lt_ (g_spot + (1 : Int32)) (fun y2 => gd (¬ g_spot < 0 ∧ g_spot.toNatClampNeg < 200) (bd (fX8_item (g_text g_spot.toNatClampNeg) g_length y2 g_text g_read) (fun u4 => br (u4.1 = 0) (some (Sum.inr ((g_spot, u4.2.1, u4.2.2)))) (bd (fX8_byteAt u4.2.1 g_length g_text) (fun u6 => br (u6 = (59 : Int32)) (lt_ (u4.2.1 + (1 : Int32)) (fun y8 => some (Sum.inl ((y8, u4.2.2))))) (some (Sum.inr ((g_spot, u4.2.1, u4.2.2))))))))))
noncomputable def sX8_fault_27 (g_length : Int32) (g_text : Nat → Int32) : (Int32 × (Nat → Int32)) → Option ((Int32 × (Nat → Int32)) ⊕ (Int32 × Int32 × (Nat → Int32))) := fun q => bX8_fault_27 g_length g_text q.1 q.2
noncomputable def bX8_fault_2 (g_length : Int32) (g_spot : Int32) (g_text : Nat → Int32) (x1 : Int32) (g_read : Nat → Int32) : Option ((Int32 × (Nat → Int32)) ⊕ (Int32 × Int32 × (Nat → Int32))) := br ((164 : Int32) ≤ x1) (ml (run (sX8_fault_27 g_length g_text) (((0 : Int32), g_read)))) (gd (¬ x1 < 0 ∧ x1.toNatClampNeg < 164) (lt_ (upd g_read x1.toNatClampNeg (vp_nar .boolean (0 : Int32))) (fun y12 => lt_ (x1 + (1 : Int32)) (fun y13 => some (Sum.inl ((y13, y12)))))))
noncomputable def sX8_fault_2 (g_length : Int32) (g_spot : Int32) (g_text : Nat → Int32) : (Int32 × (Nat → Int32)) → Option ((Int32 × (Nat → Int32)) ⊕ (Int32 × Int32 × (Nat → Int32))) := fun q => bX8_fault_2 g_length g_spot g_text q.1 q.2
noncomputable def fX8_fault (g_length : Int32) (g_spot : Int32) (g_text : Nat → Int32) (g_read : Nat → Int32) : Option (Int32 × Int32 × (Nat → Int32)) := run (sX8_fault_2 g_length g_spot g_text) (((0 : Int32), g_read))
set_option maxHeartbeats 4000000 in
set_option maxRecDepth 100000 in
theorem cX8_fault_ct (l : Launch) (D : va_G) (cI cL cC cZ : ClassId) (a_this a_text a_now a_before a_read a_first a_second a_sums a_other a_grid a_order : Nat) (g_length : Int32) (g_undoMany : Int32) (g_spot : Int32) (g_step : Int32) (g_coverMany : Int32) (g_leastSums : Int32) (g_leastPart : Int32) (g_text : Nat → Int32) (g_read : Nat → Int32) (r0 : Int32) (v_spot : Int32) (v_read : Nat → Int32) (hf : fX8_fault g_length g_spot g_text g_read = some ((r0, v_spot, v_read))) : CtI l yX8_fault wsX8_fault rmX8_fault D (tyz cI cL cC cZ) [.ref a_this] [(a_this, .inr (8, [.int g_length, .ref a_text, .ref a_now, .ref a_before, .int g_undoMany, .ref a_read, .int g_spot, .ref a_first, .ref a_second, .ref a_sums, .ref a_other, .int g_step, .int g_coverMany, .ref a_grid, .ref a_order, .int g_leastSums, .int g_leastPart])), (a_text, .inl (cI, 200, .inl g_text)), (a_read, .inl (cZ, 164, .inl g_read))] [(a_this, .inr (8, [.int g_length, .ref a_text, .ref a_now, .ref a_before, .int g_undoMany, .ref a_read, .int v_spot, .ref a_first, .ref a_second, .ref a_sums, .ref a_other, .int g_step, .int g_coverMany, .ref a_grid, .ref a_order, .int g_leastSums, .int g_leastPart])), (a_text, .inl (cI, 200, .inl g_text)), (a_read, .inl (cZ, 164, .inl v_read))] r0 := by
  refine CtI.make (cc := cX8_fault) (maxL := 2) (ty := .int) (by decide) rfl (Nat.le_of_ble_eq_true rfl) ?_
  intro p e s m below meth c A ls C0 hN hA hP hD hl
  obtain ⟨hx, hb, hr, hml, hown, hts, hlk⟩ := id C0
  have hown : s.vm.findClass RX8 = some m.cls := hown
  have hS : va_S A s.heap s.heap [] := va_S.rf
  have hP : va_P D vwCl [(a_this, .inr (8, [.int g_length, .ref a_text, .ref a_now, .ref a_before, .int g_undoMany, .ref a_read, .int g_spot, .ref a_first, .ref a_second, .ref a_sums, .ref a_other, .int g_step, .int g_coverMany, .ref a_grid, .ref a_order, .int g_leastSums, .int g_leastPart])), (a_text, .inl (cI, 200, .inl g_text)), (a_read, .inl (cZ, 164, .inl g_read))] s.heap := hP
  have hD : va_D A [(a_this, .inr (8, [.int g_length, .ref a_text, .ref a_now, .ref a_before, .int g_undoMany, .ref a_read, .int g_spot, .ref a_first, .ref a_second, .ref a_sums, .ref a_other, .int g_step, .int g_coverMany, .ref a_grid, .ref a_order, .int g_leastSums, .int g_leastPart])), (a_text, .inl (cI, 200, .inl g_text)), (a_read, .inl (cZ, 164, .inl g_read))] := hD
  have hl : lv_has ls 2 [(0, .ref a_this)] := hl
  have z1 : ∀ w ∈ u_ws RX8 TX8 17, w ∈ wsX8_fault := by decide +kernel
  have z2 := hts (.fieldLink RX8 55 "LittleSumsModel" "spot" "I") (by decide +kernel)
  have z3 := hts (.fieldLink RX8 51 "LittleSumsModel" "length" "I") (by decide +kernel)
  have z4 := hts (.fieldLink RX8 7 "LittleSumsModel" "text" "[I") (by decide +kernel)
  have z5 := cwV (R := rmX8_fault) (rm := rmX8_item) (mc := 0) (ms := 0) 1 hts gX8_fault_X8_item rfl rfl rfl (by decide +kernel) ⟨Nat.le_of_ble_eq_true rfl, Nat.le_of_ble_eq_true rfl⟩
  have z6 := cwV (R := rmX8_fault) (rm := rmX8_byteAt) (mc := 0) (ms := 0) 1 hts gX8_fault_X8_byteAt rfl rfl rfl (by decide +kernel) ⟨Nat.le_of_ble_eq_true rfl, Nat.le_of_ble_eq_true rfl⟩
  have z7 := hts (.fieldLink RX8 20 "LittleSumsModel" "read" "[Z") (by decide +kernel)
  have w27 : ∀ (g_length : Int32) (g_text : Nat → Int32) (g_spot : Int32) (g_read : Nat → Int32) (t : Int32 × Int32 × (Nat → Int32)) (H : Heap) (locs : List Loc) (ls : Array Slot), run (sX8_fault_27 g_length g_text) ((g_spot, g_read)) = some t → (fun z => z = (r0, v_spot, v_read)) t → va_P D vwCl [(a_this, .inr (8, [.int g_length, .ref a_text, .ref a_now, .ref a_before, .int g_undoMany, .ref a_read, .int g_spot, .ref a_first, .ref a_second, .ref a_sums, .ref a_other, .int g_step, .int g_coverMany, .ref a_grid, .ref a_order, .int g_leastSums, .int g_leastPart])), (a_text, .inl (cI, 200, .inl g_text)), (a_read, .inl (cZ, 164, .inl g_read))] H → va_D A [(a_this, .inr (8, [.int g_length, .ref a_text, .ref a_now, .ref a_before, .int g_undoMany, .ref a_read, .int g_spot, .ref a_first, .ref a_second, .ref a_sums, .ref a_other, .int g_step, .int g_coverMany, .ref a_grid, .ref a_order, .int g_leastSums, .int g_leastPart])), (a_text, .inl (cI, 200, .inl g_text)), (a_read, .inl (cZ, 164, .inl g_read))] → va_S A s.heap H locs → lv_has ls 2 [(0, .ref a_this)] → W p l e rmX8_fault s m ([.ref a_this] : List Value).toArray below meth c H locs 0 0 (MQ below (cQi D r0 A [(a_this, .inr (8, [.int g_length, .ref a_text, .ref a_now, .ref a_before, .int g_undoMany, .ref a_read, .int v_spot, .ref a_first, .ref a_second, .ref a_sums, .ref a_other, .int g_step, .int g_coverMany, .ref a_grid, .ref a_order, .int g_leastSums, .int g_leastPart])), (a_text, .inl (cI, 200, .inl g_text)), (a_read, .inl (cZ, 164, .inl v_read))]) ([.ref a_this] : List Value).toArray s 0 0 A) (F0 m 27 ls []) := by
    intro g_length g_text
    obtain ⟨F27, eF27⟩ : ∃ F : (Int32 × (Nat → Int32)) → Prop, F = fun q => ∀ (H : Heap) (locs : List Loc) (ls : Array Slot), va_P D vwCl [(a_this, .inr (8, [.int g_length, .ref a_text, .ref a_now, .ref a_before, .int g_undoMany, .ref a_read, .int q.1, .ref a_first, .ref a_second, .ref a_sums, .ref a_other, .int g_step, .int g_coverMany, .ref a_grid, .ref a_order, .int g_leastSums, .int g_leastPart])), (a_text, .inl (cI, 200, .inl g_text)), (a_read, .inl (cZ, 164, .inl q.2))] H → va_D A [(a_this, .inr (8, [.int g_length, .ref a_text, .ref a_now, .ref a_before, .int g_undoMany, .ref a_read, .int q.1, .ref a_first, .ref a_second, .ref a_sums, .ref a_other, .int g_step, .int g_coverMany, .ref a_grid, .ref a_order, .int g_leastSums, .int g_leastPart])), (a_text, .inl (cI, 200, .inl g_text)), (a_read, .inl (cZ, 164, .inl q.2))] → va_S A s.heap H locs → lv_has ls 2 [(0, .ref a_this)] → W p l e rmX8_fault s m ([.ref a_this] : List Value).toArray below meth c H locs 0 0 (MQ below (cQi D r0 A [(a_this, .inr (8, [.int g_length, .ref a_text, .ref a_now, .ref a_before, .int g_undoMany, .ref a_read, .int v_spot, .ref a_first, .ref a_second, .ref a_sums, .ref a_other, .int g_step, .int g_coverMany, .ref a_grid, .ref a_order, .int g_leastSums, .int g_leastPart])), (a_text, .inl (cI, 200, .inl g_text)), (a_read, .inl (cZ, 164, .inl v_read))]) ([.ref a_this] : List Value).toArray s 0 0 A) (F0 m 27 ls []) := ⟨_, rfl⟩
    have key : ∀ (q : Int32 × (Nat → Int32)) (t : Int32 × Int32 × (Nat → Int32)), run (sX8_fault_27 g_length g_text) q = some t → (fun z => z = (r0, v_spot, v_read)) t → F27 q := by
      refine loop_rule (sX8_fault_27 g_length g_text) F27 (fun z => z = (r0, v_spot, v_read)) ?_
      intro q t hf hF
      have hF : (Sum.elim F27 (fun z => z = (r0, v_spot, v_read))) t := hF
      rw [eF27]
      obtain ⟨g_spot, g_read⟩ := q
      intro H locs ls hP hD hS hl
      have hP : va_P D vwCl [(a_this, .inr (8, [.int g_length, .ref a_text, .ref a_now, .ref a_before, .int g_undoMany, .ref a_read, .int g_spot, .ref a_first, .ref a_second, .ref a_sums, .ref a_other, .int g_step, .int g_coverMany, .ref a_grid, .ref a_order, .int g_leastSums, .int g_leastPart])), (a_text, .inl (cI, 200, .inl g_text)), (a_read, .inl (cZ, 164, .inl g_read))] H := hP
      have hD : va_D A [(a_this, .inr (8, [.int g_length, .ref a_text, .ref a_now, .ref a_before, .int g_undoMany, .ref a_read, .int g_spot, .ref a_first, .ref a_second, .ref a_sums, .ref a_other, .int g_step, .int g_coverMany, .ref a_grid, .ref a_order, .int g_leastSums, .int g_leastPart])), (a_text, .inl (cI, 200, .inl g_text)), (a_read, .inl (cZ, 164, .inl g_read))] := hD
      have hl : lv_has ls 2 [(0, .ref a_this)] := hl
      have hf : bX8_fault_27 g_length g_text g_spot g_read = some t := hf
      unfold bX8_fault_27 at hf
      refine lv_aload_n hx hb dX8_fault_27 rfl (lv_at hl 0 rfl) ?_
      refine va_get (D := D) (ci := 8) (v := .int g_spot) (C := RX8) (T := TX8) (N := 17) hx hb hts z1 hown hN.1 hP 0 rfl rfl 6 (by decide) z2 (fun _ h9 => h9) rfl dX8_fault_28 ?_
      refine lv_aload_n hx hb dX8_fault_31 rfl (lv_at hl 0 rfl) ?_
      refine va_get (D := D) (ci := 8) (v := .int g_length) (C := RX8) (T := TX8) (N := 17) hx hb hts z1 hown hN.1 hP 0 rfl rfl 0 (by decide) z3 (fun _ h9 => h9) rfl dX8_fault_32 ?_
      refine lv_icmp_ge (tgt := 94) hx hb dX8_fault_35 (by decide) (fun c1 => ?_) (fun c1 => ?_)
      · have hf := br_pos c1 hf
        refine lv_bipush (v := -4) hx hb dX8_fault_94 (by decide) ?_
        cases hf
        have hE : ((-4 : Int32), g_spot, g_read) = (r0, v_spot, v_read) := hF
        simp only [Prod.mk.injEq] at hE
        obtain ⟨rfl, rfl, rfl⟩ := hE
        exact rtI hx hb hr hlk hP hD hS dX8_fault_96
      · have hf := br_neg c1 hf
        refine lv_aload_n hx hb dX8_fault_38 rfl (lv_at hl 0 rfl) ?_
        refine va_get (D := D) (ci := 8) (v := .int g_spot) (C := RX8) (T := TX8) (N := 17) hx hb hts z1 hown hN.1 hP 0 rfl rfl 6 (by decide) z2 (fun _ h9 => h9) rfl dX8_fault_39 ?_
        refine lv_istore_n (lv' := [(1, .int g_spot), (0, .ref a_this)]) hx hb dX8_fault_42 rfl hl (by decide) rfl (fun ls hl => ?_)
        refine lv_aload_n hx hb dX8_fault_43 rfl (lv_at hl 1 rfl) ?_
        refine lv_dup hx hb dX8_fault_44 rfl ?_
        refine va_get (D := D) (ci := 8) (v := .int g_spot) (C := RX8) (T := TX8) (N := 17) hx hb hts z1 hown hN.1 hP 0 rfl rfl 6 (by decide) z2 (fun _ h9 => h9) rfl dX8_fault_45 ?_
        refine lv_iconst (v := 1) hx hb dX8_fault_48 (by decide) ?_
        refine lv_iadd hx hb dX8_fault_49 ?_
        refine lv_topi (fun y2 ey2 => ?_)
        have hf := lt_some hf y2 ey2
        refine va_put (D := D) (ci := 8) (v := .int y2) (ty := .int) (C := RX8) (T := TX8) (N := 17) hx hb hts z1 tyX8 tyX8_ok nmX8 hown hN.1 hP hD hS 0 rfl rfl 6 (by decide) z2 (fun _ h9 => h9) rfl (by decide +kernel) rfl rfl (Nat.le_of_ble_eq_true rfl) dX8_fault_50 (fun H locs hP hD hS => ?_)
        have hP : va_P D vwCl [(a_this, .inr (8, [.int g_length, .ref a_text, .ref a_now, .ref a_before, .int g_undoMany, .ref a_read, .int y2, .ref a_first, .ref a_second, .ref a_sums, .ref a_other, .int g_step, .int g_coverMany, .ref a_grid, .ref a_order, .int g_leastSums, .int g_leastPart])), (a_text, .inl (cI, 200, .inl g_text)), (a_read, .inl (cZ, 164, .inl g_read))] H := hP
        have hD : va_D A [(a_this, .inr (8, [.int g_length, .ref a_text, .ref a_now, .ref a_before, .int g_undoMany, .ref a_read, .int y2, .ref a_first, .ref a_second, .ref a_sums, .ref a_other, .int g_step, .int g_coverMany, .ref a_grid, .ref a_order, .int g_leastSums, .int g_leastPart])), (a_text, .inl (cI, 200, .inl g_text)), (a_read, .inl (cZ, 164, .inl g_read))] := hD
        refine lv_aload_n hx hb dX8_fault_53 rfl (lv_at hl 1 rfl) ?_
        refine lv_aload_n hx hb dX8_fault_54 rfl (lv_at hl 1 rfl) ?_
        refine va_get (D := D) (ci := 8) (v := .ref a_text) (C := RX8) (T := TX8) (N := 17) hx hb hts z1 hown hN.1 hP 0 rfl rfl 1 (by decide) z4 (fun _ h9 => h9) rfl dX8_fault_55 ?_
        refine lv_iload_n hx hb dX8_fault_58 rfl (lv_at hl 0 rfl) ?_
        obtain ⟨c3, hf⟩ := gd_some hf
        refine va_iald hx hb hN.1 hP 1 0 rfl rfl (ix_in c3) dX8_fault_59 ?_
        obtain ⟨u4, hu4, hf⟩ := bd_some hf
        refine caVI (rest := []) (As := [.int (g_text g_spot.toNatClampNeg)]) (wr := []) (wo := [(a_this, .inr (8, [.int g_length, .ref a_text, .ref a_now, .ref a_before, .int g_undoMany, .ref a_read, .int u4.2.1, .ref a_first, .ref a_second, .ref a_sums, .ref a_other, .int g_step, .int g_coverMany, .ref a_grid, .ref a_order, .int g_leastSums, .int g_leastPart])), (a_text, .inl (cI, 200, .inl g_text)), (a_read, .inl (cZ, 164, .inl u4.2.2))]) ⟨hx, hb, hml, hown, hts⟩ hN hP hD hS hA (cX8_item_ct l D cI cL cC cZ a_this a_text a_now a_before a_read a_first a_second a_sums a_other a_grid a_order g_length g_undoMany y2 g_step g_coverMany g_leastSums g_leastPart g_text g_read (g_text g_spot.toNatClampNeg) u4.1 u4.2.1 u4.2.2 hu4) z5 0 8 rfl rfl [0, 1, 2] [] [0, 1, 2] rfl (by decide) rfl (by decide) (by decide) rfl (by decide) rfl hl.1 rfl (Nat.le_of_ble_eq_true rfl) dX8_fault_60 ⟨Nat.zero_le _, Nat.zero_le _⟩ (fun H locs hP hD hS => ?_)
        refine lv_if_eq (tgt := 79) hx hb dX8_fault_63 (by decide) (fun c5 => ?_) (fun c5 => ?_)
        · have hf := br_pos c5 hf
          refine lv_iload_n hx hb dX8_fault_79 rfl (lv_at hl 0 rfl) ?_
          cases hf
          have hE : (g_spot, u4.2.1, u4.2.2) = (r0, v_spot, v_read) := hF
          simp only [Prod.mk.injEq] at hE
          obtain ⟨rfl, rfl, rfl⟩ := hE
          exact rtI hx hb hr hlk hP hD hS dX8_fault_80
        · have hf := br_neg c5 hf
          refine lv_aload_n hx hb dX8_fault_66 rfl (lv_at hl 1 rfl) ?_
          refine lv_aload_n hx hb dX8_fault_67 rfl (lv_at hl 1 rfl) ?_
          refine va_get (D := D) (ci := 8) (v := .int u4.2.1) (C := RX8) (T := TX8) (N := 17) hx hb hts z1 hown hN.1 hP 0 rfl rfl 6 (by decide) z2 (fun _ h9 => h9) rfl dX8_fault_68 ?_
          obtain ⟨u6, hu6, hf⟩ := bd_some hf
          refine caVI (rest := []) (As := [.int u4.2.1]) (wr := [(a_read, .inl (cZ, 164, .inl u4.2.2))]) (wo := [(a_this, .inr (8, [.int g_length, .ref a_text, .ref a_now, .ref a_before, .int g_undoMany, .ref a_read, .int u4.2.1, .ref a_first, .ref a_second, .ref a_sums, .ref a_other, .int g_step, .int g_coverMany, .ref a_grid, .ref a_order, .int g_leastSums, .int g_leastPart])), (a_text, .inl (cI, 200, .inl g_text)), (a_read, .inl (cZ, 164, .inl u4.2.2))]) ⟨hx, hb, hml, hown, hts⟩ hN hP hD hS hA (cX8_byteAt_ct l D cI cL cC cZ a_this a_text a_now a_before a_read a_first a_second a_sums a_other a_grid a_order g_length g_undoMany u4.2.1 g_step g_coverMany g_leastSums g_leastPart g_text u4.2.1 u6 hu6) z6 0 8 rfl rfl [0, 1] [2] [1, 2, 0] rfl (by decide) rfl (by decide) (by decide) rfl (by decide) rfl hl.1 rfl (Nat.le_of_ble_eq_true rfl) dX8_fault_71 ⟨Nat.zero_le _, Nat.zero_le _⟩ (fun H locs hP hD hS => ?_)
          refine lv_bipush (v := 59) hx hb dX8_fault_74 (by decide) ?_
          refine lv_icmp_eq (tgt := 81) hx hb dX8_fault_76 (by decide) (fun c7 => ?_) (fun c7 => ?_)
          · have hf := br_pos c7 hf
            refine lv_aload_n hx hb dX8_fault_81 rfl (lv_at hl 1 rfl) ?_
            refine lv_dup hx hb dX8_fault_82 rfl ?_
            refine va_get (D := D) (ci := 8) (v := .int u4.2.1) (C := RX8) (T := TX8) (N := 17) hx hb hts z1 hown hN.1 hP 0 rfl rfl 6 (by decide) z2 (fun _ h9 => h9) rfl dX8_fault_83 ?_
            refine lv_iconst (v := 1) hx hb dX8_fault_86 (by decide) ?_
            refine lv_iadd hx hb dX8_fault_87 ?_
            refine lv_topi (fun y8 ey8 => ?_)
            have hf := lt_some hf y8 ey8
            refine va_put (D := D) (ci := 8) (v := .int y8) (ty := .int) (C := RX8) (T := TX8) (N := 17) hx hb hts z1 tyX8 tyX8_ok nmX8 hown hN.1 hP hD hS 0 rfl rfl 6 (by decide) z2 (fun _ h9 => h9) rfl (by decide +kernel) rfl rfl (Nat.le_of_ble_eq_true rfl) dX8_fault_88 (fun H locs hP hD hS => ?_)
            have hP : va_P D vwCl [(a_this, .inr (8, [.int g_length, .ref a_text, .ref a_now, .ref a_before, .int g_undoMany, .ref a_read, .int y8, .ref a_first, .ref a_second, .ref a_sums, .ref a_other, .int g_step, .int g_coverMany, .ref a_grid, .ref a_order, .int g_leastSums, .int g_leastPart])), (a_text, .inl (cI, 200, .inl g_text)), (a_read, .inl (cZ, 164, .inl u4.2.2))] H := hP
            have hD : va_D A [(a_this, .inr (8, [.int g_length, .ref a_text, .ref a_now, .ref a_before, .int g_undoMany, .ref a_read, .int y8, .ref a_first, .ref a_second, .ref a_sums, .ref a_other, .int g_step, .int g_coverMany, .ref a_grid, .ref a_order, .int g_leastSums, .int g_leastPart])), (a_text, .inl (cI, 200, .inl g_text)), (a_read, .inl (cZ, 164, .inl u4.2.2))] := hD
            refine lv_goto (tgt := 27) hx hb dX8_fault_91 (by decide) ?_
            cases hf
            exact ((congrFun eF27 _).mp hF) H locs ls hP hD hS (lv_sub hl [1] rfl)
          · have hf := br_neg c7 hf
            refine lv_iload_n hx hb dX8_fault_79 rfl (lv_at hl 0 rfl) ?_
            cases hf
            have hE : (g_spot, u4.2.1, u4.2.2) = (r0, v_spot, v_read) := hF
            simp only [Prod.mk.injEq] at hE
            obtain ⟨rfl, rfl, rfl⟩ := hE
            exact rtI hx hb hr hlk hP hD hS dX8_fault_80
    intro g_spot g_read t H locs ls hf hF hP hD hS hl
    exact ((congrFun eF27 _).mp (key ((g_spot, g_read)) t hf hF)) H locs ls hP hD hS hl
  have w2 : ∀ (g_length : Int32) (g_spot : Int32) (g_text : Nat → Int32) (x1 : Int32) (g_read : Nat → Int32) (t : Int32 × Int32 × (Nat → Int32)) (H : Heap) (locs : List Loc) (ls : Array Slot), run (sX8_fault_2 g_length g_spot g_text) ((x1, g_read)) = some t → (fun z => z = (r0, v_spot, v_read)) t → va_P D vwCl [(a_this, .inr (8, [.int g_length, .ref a_text, .ref a_now, .ref a_before, .int g_undoMany, .ref a_read, .int g_spot, .ref a_first, .ref a_second, .ref a_sums, .ref a_other, .int g_step, .int g_coverMany, .ref a_grid, .ref a_order, .int g_leastSums, .int g_leastPart])), (a_text, .inl (cI, 200, .inl g_text)), (a_read, .inl (cZ, 164, .inl g_read))] H → va_D A [(a_this, .inr (8, [.int g_length, .ref a_text, .ref a_now, .ref a_before, .int g_undoMany, .ref a_read, .int g_spot, .ref a_first, .ref a_second, .ref a_sums, .ref a_other, .int g_step, .int g_coverMany, .ref a_grid, .ref a_order, .int g_leastSums, .int g_leastPart])), (a_text, .inl (cI, 200, .inl g_text)), (a_read, .inl (cZ, 164, .inl g_read))] → va_S A s.heap H locs → lv_has ls 2 [(0, .ref a_this), (1, .int x1)] → W p l e rmX8_fault s m ([.ref a_this] : List Value).toArray below meth c H locs 0 0 (MQ below (cQi D r0 A [(a_this, .inr (8, [.int g_length, .ref a_text, .ref a_now, .ref a_before, .int g_undoMany, .ref a_read, .int v_spot, .ref a_first, .ref a_second, .ref a_sums, .ref a_other, .int g_step, .int g_coverMany, .ref a_grid, .ref a_order, .int g_leastSums, .int g_leastPart])), (a_text, .inl (cI, 200, .inl g_text)), (a_read, .inl (cZ, 164, .inl v_read))]) ([.ref a_this] : List Value).toArray s 0 0 A) (F0 m 2 ls []) := by
    intro g_length g_spot g_text
    obtain ⟨F2, eF2⟩ : ∃ F : (Int32 × (Nat → Int32)) → Prop, F = fun q => ∀ (H : Heap) (locs : List Loc) (ls : Array Slot), va_P D vwCl [(a_this, .inr (8, [.int g_length, .ref a_text, .ref a_now, .ref a_before, .int g_undoMany, .ref a_read, .int g_spot, .ref a_first, .ref a_second, .ref a_sums, .ref a_other, .int g_step, .int g_coverMany, .ref a_grid, .ref a_order, .int g_leastSums, .int g_leastPart])), (a_text, .inl (cI, 200, .inl g_text)), (a_read, .inl (cZ, 164, .inl q.2))] H → va_D A [(a_this, .inr (8, [.int g_length, .ref a_text, .ref a_now, .ref a_before, .int g_undoMany, .ref a_read, .int g_spot, .ref a_first, .ref a_second, .ref a_sums, .ref a_other, .int g_step, .int g_coverMany, .ref a_grid, .ref a_order, .int g_leastSums, .int g_leastPart])), (a_text, .inl (cI, 200, .inl g_text)), (a_read, .inl (cZ, 164, .inl q.2))] → va_S A s.heap H locs → lv_has ls 2 [(0, .ref a_this), (1, .int q.1)] → W p l e rmX8_fault s m ([.ref a_this] : List Value).toArray below meth c H locs 0 0 (MQ below (cQi D r0 A [(a_this, .inr (8, [.int g_length, .ref a_text, .ref a_now, .ref a_before, .int g_undoMany, .ref a_read, .int v_spot, .ref a_first, .ref a_second, .ref a_sums, .ref a_other, .int g_step, .int g_coverMany, .ref a_grid, .ref a_order, .int g_leastSums, .int g_leastPart])), (a_text, .inl (cI, 200, .inl g_text)), (a_read, .inl (cZ, 164, .inl v_read))]) ([.ref a_this] : List Value).toArray s 0 0 A) (F0 m 2 ls []) := ⟨_, rfl⟩
    have key : ∀ (q : Int32 × (Nat → Int32)) (t : Int32 × Int32 × (Nat → Int32)), run (sX8_fault_2 g_length g_spot g_text) q = some t → (fun z => z = (r0, v_spot, v_read)) t → F2 q := by
      refine loop_rule (sX8_fault_2 g_length g_spot g_text) F2 (fun z => z = (r0, v_spot, v_read)) ?_
      intro q t hf hF
      have hF : (Sum.elim F2 (fun z => z = (r0, v_spot, v_read))) t := hF
      rw [eF2]
      obtain ⟨x1, g_read⟩ := q
      intro H locs ls hP hD hS hl
      have hP : va_P D vwCl [(a_this, .inr (8, [.int g_length, .ref a_text, .ref a_now, .ref a_before, .int g_undoMany, .ref a_read, .int g_spot, .ref a_first, .ref a_second, .ref a_sums, .ref a_other, .int g_step, .int g_coverMany, .ref a_grid, .ref a_order, .int g_leastSums, .int g_leastPart])), (a_text, .inl (cI, 200, .inl g_text)), (a_read, .inl (cZ, 164, .inl g_read))] H := hP
      have hD : va_D A [(a_this, .inr (8, [.int g_length, .ref a_text, .ref a_now, .ref a_before, .int g_undoMany, .ref a_read, .int g_spot, .ref a_first, .ref a_second, .ref a_sums, .ref a_other, .int g_step, .int g_coverMany, .ref a_grid, .ref a_order, .int g_leastSums, .int g_leastPart])), (a_text, .inl (cI, 200, .inl g_text)), (a_read, .inl (cZ, 164, .inl g_read))] := hD
      have hl : lv_has ls 2 [(0, .ref a_this), (1, .int x1)] := hl
      have hf : bX8_fault_2 g_length g_spot g_text x1 g_read = some t := hf
      unfold bX8_fault_2 at hf
      refine lv_iload_n hx hb dX8_fault_2 rfl (lv_at hl 1 rfl) ?_
      refine lv_sipush (v := 164) hx hb dX8_fault_3 (by decide) ?_
      refine lv_icmp_ge (tgt := 22) hx hb dX8_fault_6 (by decide) (fun c9 => ?_) (fun c9 => ?_)
      · have hf := br_pos c9 hf
        refine lv_aload_n hx hb dX8_fault_22 rfl (lv_at hl 0 rfl) ?_
        refine lv_iconst (v := 0) hx hb dX8_fault_23 (by decide) ?_
        refine va_put (D := D) (ci := 8) (v := .int (0 : Int32)) (ty := .int) (C := RX8) (T := TX8) (N := 17) hx hb hts z1 tyX8 tyX8_ok nmX8 hown hN.1 hP hD hS 0 rfl rfl 6 (by decide) z2 (fun _ h9 => h9) rfl (by decide +kernel) rfl rfl (Nat.le_of_ble_eq_true rfl) dX8_fault_24 (fun H locs hP hD hS => ?_)
        have hP : va_P D vwCl [(a_this, .inr (8, [.int g_length, .ref a_text, .ref a_now, .ref a_before, .int g_undoMany, .ref a_read, .int (0 : Int32), .ref a_first, .ref a_second, .ref a_sums, .ref a_other, .int g_step, .int g_coverMany, .ref a_grid, .ref a_order, .int g_leastSums, .int g_leastPart])), (a_text, .inl (cI, 200, .inl g_text)), (a_read, .inl (cZ, 164, .inl g_read))] H := hP
        have hD : va_D A [(a_this, .inr (8, [.int g_length, .ref a_text, .ref a_now, .ref a_before, .int g_undoMany, .ref a_read, .int (0 : Int32), .ref a_first, .ref a_second, .ref a_sums, .ref a_other, .int g_step, .int g_coverMany, .ref a_grid, .ref a_order, .int g_leastSums, .int g_leastPart])), (a_text, .inl (cI, 200, .inl g_text)), (a_read, .inl (cZ, 164, .inl g_read))] := hD
        obtain ⟨t10, hf, hF⟩ := ml_fin hf hF
        have hF : t10 = (r0, v_spot, v_read) := hF
        rw [hF] at hf
        exact w27 g_length g_text (0 : Int32) g_read (r0, v_spot, v_read) H locs ls hf rfl hP hD hS (lv_sub hl [0] rfl)
      · have hf := br_neg c9 hf
        refine lv_aload_n hx hb dX8_fault_9 rfl (lv_at hl 0 rfl) ?_
        refine va_get (D := D) (ci := 8) (v := .ref a_read) (C := RX8) (T := TX8) (N := 17) hx hb hts z1 hown hN.1 hP 0 rfl rfl 5 (by decide) z7 (fun _ h9 => h9) rfl dX8_fault_10 ?_
        refine lv_iload_n hx hb dX8_fault_13 rfl (lv_at hl 1 rfl) ?_
        refine lv_iconst (v := 0) hx hb dX8_fault_14 (by decide) ?_
        obtain ⟨c11, hf⟩ := gd_some hf
        refine va_zast hx hb hN.1 hP hD hS 2 3 rfl rfl (ix_in c11) dX8_fault_15 (fun H locs hP hD hS => ?_)
        obtain ⟨y12, ey12⟩ : ∃ z, z = upd g_read x1.toNatClampNeg (vp_nar .boolean (0 : Int32)) := ⟨_, rfl⟩
        have hf := lt_some hf y12 ey12
        have hP : va_P D vwCl [(a_this, .inr (8, [.int g_length, .ref a_text, .ref a_now, .ref a_before, .int g_undoMany, .ref a_read, .int g_spot, .ref a_first, .ref a_second, .ref a_sums, .ref a_other, .int g_step, .int g_coverMany, .ref a_grid, .ref a_order, .int g_leastSums, .int g_leastPart])), (a_text, .inl (cI, 200, .inl g_text)), (a_read, .inl (cZ, 164, .inl y12))] H := by rw [ey12]; exact hP
        have hD : va_D A [(a_this, .inr (8, [.int g_length, .ref a_text, .ref a_now, .ref a_before, .int g_undoMany, .ref a_read, .int g_spot, .ref a_first, .ref a_second, .ref a_sums, .ref a_other, .int g_step, .int g_coverMany, .ref a_grid, .ref a_order, .int g_leastSums, .int g_leastPart])), (a_text, .inl (cI, 200, .inl g_text)), (a_read, .inl (cZ, 164, .inl y12))] := by rw [ey12]; exact hD
        obtain ⟨y13, ey13⟩ : ∃ z : Int32, z = x1 + (1 : Int32) := ⟨_, rfl⟩
        have hf := lt_some hf y13 ey13
        refine lv_iinc (v := y13) (lv' := [(1, .int y13), (0, .ref a_this)]) hx hb dX8_fault_16 hl (k := 1) rfl (by rw [ey13]; rfl) (by decide) rfl (fun ls hl => ?_)
        refine lv_goto (tgt := 2) hx hb dX8_fault_19 (by decide) ?_
        cases hf
        exact ((congrFun eF2 _).mp hF) H locs ls hP hD hS (lv_sub hl [1, 0] rfl)
    intro x1 g_read t H locs ls hf hF hP hD hS hl
    exact ((congrFun eF2 _).mp (key ((x1, g_read)) t hf hF)) H locs ls hP hD hS hl
  unfold fX8_fault at hf
  obtain ⟨H, eH⟩ : ∃ z, z = s.heap := ⟨_, rfl⟩
  obtain ⟨locs, eL⟩ : ∃ z : List Loc, z = [] := ⟨_, rfl⟩
  have hP : va_P D vwCl [(a_this, .inr (8, [.int g_length, .ref a_text, .ref a_now, .ref a_before, .int g_undoMany, .ref a_read, .int g_spot, .ref a_first, .ref a_second, .ref a_sums, .ref a_other, .int g_step, .int g_coverMany, .ref a_grid, .ref a_order, .int g_leastSums, .int g_leastPart])), (a_text, .inl (cI, 200, .inl g_text)), (a_read, .inl (cZ, 164, .inl g_read))] H := by rw [eH]; exact hP
  have hS : va_S A s.heap H locs := by rw [eH, eL]; exact hS
  suffices hG : W p l e rmX8_fault s m ([.ref a_this] : List Value).toArray below meth c H locs 0 0 (MQ below (cQi D r0 A [(a_this, .inr (8, [.int g_length, .ref a_text, .ref a_now, .ref a_before, .int g_undoMany, .ref a_read, .int v_spot, .ref a_first, .ref a_second, .ref a_sums, .ref a_other, .int g_step, .int g_coverMany, .ref a_grid, .ref a_order, .int g_leastSums, .int g_leastPart])), (a_text, .inl (cI, 200, .inl g_text)), (a_read, .inl (cZ, 164, .inl v_read))]) ([.ref a_this] : List Value).toArray s 0 0 A) (F0 m 0 ls []) by rw [eH, eL] at hG; exact hG
  refine lv_iconst (v := 0) hx hb dX8_fault_0 (by decide) ?_
  refine lv_istore_n (lv' := [(1, .int (0 : Int32)), (0, .ref a_this)]) hx hb dX8_fault_1 rfl hl (by decide) rfl (fun ls hl => ?_)
  exact w2 g_length g_spot g_text (0 : Int32) g_read (r0, v_spot, v_read) H locs ls hf rfl hP hD hS (lv_sub hl [1, 0] rfl)
abbrev rmX8_manyOf : Room := { frames := 0, cells := 0, slots := 0, locals := 0 }
noncomputable def bX8_manyOf_30 (x1 : Int32) (x3 : Int32) (k0 : Int32) (k1 : Int32) (g_now : Nat → Int32) : Option ((Int32 × Int32) ⊕ (Int32)) := lt_ (k0 + k1) (fun y1 => lt_ (x3 + (1 : Int32)) (fun y2 => some (Sum.inl ((y1, y2)))))
noncomputable def bX8_manyOf_4 (x1 : Int32) (g_now : Nat → Int32) (x2 : Int32) (x3 : Int32) : Option ((Int32 × Int32) ⊕ (Int32)) := br ((41 : Int32) ≤ x3) (some (Sum.inr (x2))) (gd (¬ (((41 : Int32) * x1) + x3) < 0 ∧ (((41 : Int32) * x1) + x3).toNatClampNeg < 164) (br ((g_now (((41 : Int32) * x1) + x3).toNatClampNeg) = 0) (bX8_manyOf_30 x1 x3 x2 (0 : Int32) g_now) (bX8_manyOf_30 x1 x3 x2 (1 : Int32) g_now)))
noncomputable def sX8_manyOf_4 (x1 : Int32) (g_now : Nat → Int32) : (Int32 × Int32) → Option ((Int32 × Int32) ⊕ (Int32)) := fun q => bX8_manyOf_4 x1 g_now q.1 q.2
noncomputable def fX8_manyOf (q1 : Int32) (g_now : Nat → Int32) : Option (Int32) := run (sX8_manyOf_4 q1 g_now) (((0 : Int32), (0 : Int32)))
set_option maxHeartbeats 4000000 in
set_option maxRecDepth 100000 in
theorem cX8_manyOf_ct (l : Launch) (D : va_G) (cI cL cC cZ : ClassId) (a_this a_text a_now a_before a_read a_first a_second a_sums a_other a_grid a_order : Nat) (g_length : Int32) (g_undoMany : Int32) (g_spot : Int32) (g_step : Int32) (g_coverMany : Int32) (g_leastSums : Int32) (g_leastPart : Int32) (g_now : Nat → Int32) (q1 : Int32) (r0 : Int32) (hf : fX8_manyOf q1 g_now = some r0) : CtI l yX8_manyOf wsX8_manyOf rmX8_manyOf D (tyz cI cL cC cZ) [.ref a_this, .int q1] [(a_this, .inr (8, [.int g_length, .ref a_text, .ref a_now, .ref a_before, .int g_undoMany, .ref a_read, .int g_spot, .ref a_first, .ref a_second, .ref a_sums, .ref a_other, .int g_step, .int g_coverMany, .ref a_grid, .ref a_order, .int g_leastSums, .int g_leastPart])), (a_now, .inl (cZ, 164, .inl g_now))] [(a_this, .inr (8, [.int g_length, .ref a_text, .ref a_now, .ref a_before, .int g_undoMany, .ref a_read, .int g_spot, .ref a_first, .ref a_second, .ref a_sums, .ref a_other, .int g_step, .int g_coverMany, .ref a_grid, .ref a_order, .int g_leastSums, .int g_leastPart])), (a_now, .inl (cZ, 164, .inl g_now))] r0 := by
  refine CtI.make (cc := cX8_manyOf) (maxL := 4) (ty := .int) (by decide) rfl (Nat.le_of_ble_eq_true rfl) ?_
  intro p e s m below meth c A ls C0 hN hA hP hD hl
  obtain ⟨hx, hb, hr, hml, hown, hts, hlk⟩ := id C0
  have hown : s.vm.findClass RX8 = some m.cls := hown
  have hS : va_S A s.heap s.heap [] := va_S.rf
  have hP : va_P D vwCl [(a_this, .inr (8, [.int g_length, .ref a_text, .ref a_now, .ref a_before, .int g_undoMany, .ref a_read, .int g_spot, .ref a_first, .ref a_second, .ref a_sums, .ref a_other, .int g_step, .int g_coverMany, .ref a_grid, .ref a_order, .int g_leastSums, .int g_leastPart])), (a_now, .inl (cZ, 164, .inl g_now))] s.heap := hP
  have hD : va_D A [(a_this, .inr (8, [.int g_length, .ref a_text, .ref a_now, .ref a_before, .int g_undoMany, .ref a_read, .int g_spot, .ref a_first, .ref a_second, .ref a_sums, .ref a_other, .int g_step, .int g_coverMany, .ref a_grid, .ref a_order, .int g_leastSums, .int g_leastPart])), (a_now, .inl (cZ, 164, .inl g_now))] := hD
  have hl : lv_has ls 4 [(0, .ref a_this), (1, .int q1)] := hl
  have z1 : ∀ w ∈ u_ws RX8 TX8 17, w ∈ wsX8_manyOf := by decide +kernel
  have z2 := hts (.fieldLink RX8 13 "LittleSumsModel" "now" "[Z") (by decide +kernel)
  have w4 : ∀ (x1 : Int32) (g_now : Nat → Int32) (x2 : Int32) (x3 : Int32) (t : Int32) (H : Heap) (locs : List Loc) (ls : Array Slot), run (sX8_manyOf_4 x1 g_now) ((x2, x3)) = some t → (fun z => z = r0) t → va_P D vwCl [(a_this, .inr (8, [.int g_length, .ref a_text, .ref a_now, .ref a_before, .int g_undoMany, .ref a_read, .int g_spot, .ref a_first, .ref a_second, .ref a_sums, .ref a_other, .int g_step, .int g_coverMany, .ref a_grid, .ref a_order, .int g_leastSums, .int g_leastPart])), (a_now, .inl (cZ, 164, .inl g_now))] H → va_D A [(a_this, .inr (8, [.int g_length, .ref a_text, .ref a_now, .ref a_before, .int g_undoMany, .ref a_read, .int g_spot, .ref a_first, .ref a_second, .ref a_sums, .ref a_other, .int g_step, .int g_coverMany, .ref a_grid, .ref a_order, .int g_leastSums, .int g_leastPart])), (a_now, .inl (cZ, 164, .inl g_now))] → va_S A s.heap H locs → lv_has ls 4 [(0, .ref a_this), (1, .int x1), (2, .int x2), (3, .int x3)] → W p l e rmX8_manyOf s m ([.ref a_this, .int q1] : List Value).toArray below meth c H locs 0 0 (MQ below (cQi D r0 A [(a_this, .inr (8, [.int g_length, .ref a_text, .ref a_now, .ref a_before, .int g_undoMany, .ref a_read, .int g_spot, .ref a_first, .ref a_second, .ref a_sums, .ref a_other, .int g_step, .int g_coverMany, .ref a_grid, .ref a_order, .int g_leastSums, .int g_leastPart])), (a_now, .inl (cZ, 164, .inl g_now))]) ([.ref a_this, .int q1] : List Value).toArray s 0 0 A) (F0 m 4 ls []) := by
    intro x1 g_now
    obtain ⟨F4, eF4⟩ : ∃ F : (Int32 × Int32) → Prop, F = fun q => ∀ (H : Heap) (locs : List Loc) (ls : Array Slot), va_P D vwCl [(a_this, .inr (8, [.int g_length, .ref a_text, .ref a_now, .ref a_before, .int g_undoMany, .ref a_read, .int g_spot, .ref a_first, .ref a_second, .ref a_sums, .ref a_other, .int g_step, .int g_coverMany, .ref a_grid, .ref a_order, .int g_leastSums, .int g_leastPart])), (a_now, .inl (cZ, 164, .inl g_now))] H → va_D A [(a_this, .inr (8, [.int g_length, .ref a_text, .ref a_now, .ref a_before, .int g_undoMany, .ref a_read, .int g_spot, .ref a_first, .ref a_second, .ref a_sums, .ref a_other, .int g_step, .int g_coverMany, .ref a_grid, .ref a_order, .int g_leastSums, .int g_leastPart])), (a_now, .inl (cZ, 164, .inl g_now))] → va_S A s.heap H locs → lv_has ls 4 [(0, .ref a_this), (1, .int x1), (2, .int q.1), (3, .int q.2)] → W p l e rmX8_manyOf s m ([.ref a_this, .int q1] : List Value).toArray below meth c H locs 0 0 (MQ below (cQi D r0 A [(a_this, .inr (8, [.int g_length, .ref a_text, .ref a_now, .ref a_before, .int g_undoMany, .ref a_read, .int g_spot, .ref a_first, .ref a_second, .ref a_sums, .ref a_other, .int g_step, .int g_coverMany, .ref a_grid, .ref a_order, .int g_leastSums, .int g_leastPart])), (a_now, .inl (cZ, 164, .inl g_now))]) ([.ref a_this, .int q1] : List Value).toArray s 0 0 A) (F0 m 4 ls []) := ⟨_, rfl⟩
    have key : ∀ (q : Int32 × Int32) (t : Int32), run (sX8_manyOf_4 x1 g_now) q = some t → (fun z => z = r0) t → F4 q := by
      refine loop_rule (sX8_manyOf_4 x1 g_now) F4 (fun z => z = r0) ?_
      intro q t hf hF
      have hF : (Sum.elim F4 (fun z => z = r0)) t := hF
      have w30 : ∀ (x3 : Int32) (k0 : Int32) (k1 : Int32) (t : (Int32 × Int32) ⊕ (Int32)) (H : Heap) (locs : List Loc) (ls : Array Slot), bX8_manyOf_30 x1 x3 k0 k1 g_now = some t → (Sum.elim F4 (fun z => z = r0)) t → va_P D vwCl [(a_this, .inr (8, [.int g_length, .ref a_text, .ref a_now, .ref a_before, .int g_undoMany, .ref a_read, .int g_spot, .ref a_first, .ref a_second, .ref a_sums, .ref a_other, .int g_step, .int g_coverMany, .ref a_grid, .ref a_order, .int g_leastSums, .int g_leastPart])), (a_now, .inl (cZ, 164, .inl g_now))] H → va_D A [(a_this, .inr (8, [.int g_length, .ref a_text, .ref a_now, .ref a_before, .int g_undoMany, .ref a_read, .int g_spot, .ref a_first, .ref a_second, .ref a_sums, .ref a_other, .int g_step, .int g_coverMany, .ref a_grid, .ref a_order, .int g_leastSums, .int g_leastPart])), (a_now, .inl (cZ, 164, .inl g_now))] → va_S A s.heap H locs → lv_has ls 4 [(0, .ref a_this), (1, .int x1), (3, .int x3)] → W p l e rmX8_manyOf s m ([.ref a_this, .int q1] : List Value).toArray below meth c H locs 0 0 (MQ below (cQi D r0 A [(a_this, .inr (8, [.int g_length, .ref a_text, .ref a_now, .ref a_before, .int g_undoMany, .ref a_read, .int g_spot, .ref a_first, .ref a_second, .ref a_sums, .ref a_other, .int g_step, .int g_coverMany, .ref a_grid, .ref a_order, .int g_leastSums, .int g_leastPart])), (a_now, .inl (cZ, 164, .inl g_now))]) ([.ref a_this, .int q1] : List Value).toArray s 0 0 A) (F0 m 30 ls [.int k1, .int k0]) := by
        intro x3 k0 k1 t H locs ls hf hF hP hD hS hl
        unfold bX8_manyOf_30 at hf
        refine lv_iadd hx hb dX8_manyOf_30 ?_
        refine lv_topi (fun y1 ey1 => ?_)
        have hf := lt_some hf y1 ey1
        refine lv_istore_n (lv' := [(2, .int y1), (0, .ref a_this), (1, .int x1), (3, .int x3)]) hx hb dX8_manyOf_31 rfl hl (by decide) rfl (fun ls hl => ?_)
        obtain ⟨y2, ey2⟩ : ∃ z : Int32, z = x3 + (1 : Int32) := ⟨_, rfl⟩
        have hf := lt_some hf y2 ey2
        refine lv_iinc (v := y2) (lv' := [(3, .int y2), (2, .int y1), (0, .ref a_this), (1, .int x1)]) hx hb dX8_manyOf_32 hl (k := 3) rfl (by rw [ey2]; rfl) (by decide) rfl (fun ls hl => ?_)
        refine lv_goto (tgt := 4) hx hb dX8_manyOf_35 (by decide) ?_
        cases hf
        exact ((congrFun eF4 _).mp hF) H locs ls hP hD hS (lv_sub hl [2, 3, 1, 0] rfl)
      rw [eF4]
      obtain ⟨x2, x3⟩ := q
      intro H locs ls hP hD hS hl
      have hP : va_P D vwCl [(a_this, .inr (8, [.int g_length, .ref a_text, .ref a_now, .ref a_before, .int g_undoMany, .ref a_read, .int g_spot, .ref a_first, .ref a_second, .ref a_sums, .ref a_other, .int g_step, .int g_coverMany, .ref a_grid, .ref a_order, .int g_leastSums, .int g_leastPart])), (a_now, .inl (cZ, 164, .inl g_now))] H := hP
      have hD : va_D A [(a_this, .inr (8, [.int g_length, .ref a_text, .ref a_now, .ref a_before, .int g_undoMany, .ref a_read, .int g_spot, .ref a_first, .ref a_second, .ref a_sums, .ref a_other, .int g_step, .int g_coverMany, .ref a_grid, .ref a_order, .int g_leastSums, .int g_leastPart])), (a_now, .inl (cZ, 164, .inl g_now))] := hD
      have hl : lv_has ls 4 [(0, .ref a_this), (1, .int x1), (2, .int x2), (3, .int x3)] := hl
      have hf : bX8_manyOf_4 x1 g_now x2 x3 = some t := hf
      unfold bX8_manyOf_4 at hf
      refine lv_iload_n hx hb dX8_manyOf_4 rfl (lv_at hl 3 rfl) ?_
      refine lv_bipush (v := 41) hx hb dX8_manyOf_5 (by decide) ?_
      refine lv_icmp_ge (tgt := 38) hx hb dX8_manyOf_7 (by decide) (fun c3 => ?_) (fun c3 => ?_)
      · have hf := br_pos c3 hf
        refine lv_iload_n hx hb dX8_manyOf_38 rfl (lv_at hl 2 rfl) ?_
        cases hf
        have hE : x2 = r0 := hF
        subst hE
        exact rtI hx hb hr hlk hP hD hS dX8_manyOf_39
      · have hf := br_neg c3 hf
        refine lv_iload_n hx hb dX8_manyOf_10 rfl (lv_at hl 2 rfl) ?_
        refine lv_aload_n hx hb dX8_manyOf_11 rfl (lv_at hl 0 rfl) ?_
        refine va_get (D := D) (ci := 8) (v := .ref a_now) (C := RX8) (T := TX8) (N := 17) hx hb hts z1 hown hN.1 hP 0 rfl rfl 2 (by decide) z2 (fun _ h9 => h9) rfl dX8_manyOf_12 ?_
        refine lv_bipush (v := 41) hx hb dX8_manyOf_15 (by decide) ?_
        refine lv_iload_n hx hb dX8_manyOf_17 rfl (lv_at hl 1 rfl) ?_
        refine lv_imul hx hb dX8_manyOf_18 ?_
        refine lv_iload_n hx hb dX8_manyOf_19 rfl (lv_at hl 3 rfl) ?_
        refine lv_iadd hx hb dX8_manyOf_20 ?_
        obtain ⟨c4, hf⟩ := gd_some hf
        refine va_zald hx hb hN.1 hP 1 3 rfl rfl (ix_in c4) dX8_manyOf_21 ?_
        refine lv_if_eq (tgt := 29) hx hb dX8_manyOf_22 (by decide) (fun c5 => ?_) (fun c5 => ?_)
        · have hf := br_pos c5 hf
          refine lv_iconst (v := 0) hx hb dX8_manyOf_29 (by decide) ?_
          exact w30 x3 x2 (0 : Int32) _ H locs ls hf hF hP hD hS (lv_sub hl [0, 1, 3] rfl)
        · have hf := br_neg c5 hf
          refine lv_iconst (v := 1) hx hb dX8_manyOf_25 (by decide) ?_
          refine lv_goto (tgt := 30) hx hb dX8_manyOf_26 (by decide) ?_
          exact w30 x3 x2 (1 : Int32) _ H locs ls hf hF hP hD hS (lv_sub hl [0, 1, 3] rfl)
    intro x2 x3 t H locs ls hf hF hP hD hS hl
    exact ((congrFun eF4 _).mp (key ((x2, x3)) t hf hF)) H locs ls hP hD hS hl
  unfold fX8_manyOf at hf
  obtain ⟨H, eH⟩ : ∃ z, z = s.heap := ⟨_, rfl⟩
  obtain ⟨locs, eL⟩ : ∃ z : List Loc, z = [] := ⟨_, rfl⟩
  have hP : va_P D vwCl [(a_this, .inr (8, [.int g_length, .ref a_text, .ref a_now, .ref a_before, .int g_undoMany, .ref a_read, .int g_spot, .ref a_first, .ref a_second, .ref a_sums, .ref a_other, .int g_step, .int g_coverMany, .ref a_grid, .ref a_order, .int g_leastSums, .int g_leastPart])), (a_now, .inl (cZ, 164, .inl g_now))] H := by rw [eH]; exact hP
  have hS : va_S A s.heap H locs := by rw [eH, eL]; exact hS
  suffices hG : W p l e rmX8_manyOf s m ([.ref a_this, .int q1] : List Value).toArray below meth c H locs 0 0 (MQ below (cQi D r0 A [(a_this, .inr (8, [.int g_length, .ref a_text, .ref a_now, .ref a_before, .int g_undoMany, .ref a_read, .int g_spot, .ref a_first, .ref a_second, .ref a_sums, .ref a_other, .int g_step, .int g_coverMany, .ref a_grid, .ref a_order, .int g_leastSums, .int g_leastPart])), (a_now, .inl (cZ, 164, .inl g_now))]) ([.ref a_this, .int q1] : List Value).toArray s 0 0 A) (F0 m 0 ls []) by rw [eH, eL] at hG; exact hG
  refine lv_iconst (v := 0) hx hb dX8_manyOf_0 (by decide) ?_
  refine lv_istore_n (lv' := [(2, .int (0 : Int32)), (0, .ref a_this), (1, .int q1)]) hx hb dX8_manyOf_1 rfl hl (by decide) rfl (fun ls hl => ?_)
  refine lv_iconst (v := 0) hx hb dX8_manyOf_2 (by decide) ?_
  refine lv_istore_n (lv' := [(3, .int (0 : Int32)), (2, .int (0 : Int32)), (0, .ref a_this), (1, .int q1)]) hx hb dX8_manyOf_3 rfl hl (by decide) rfl (fun ls hl => ?_)
  exact w4 q1 g_now (0 : Int32) (0 : Int32) r0 H locs ls hf rfl hP hD hS (lv_sub hl [2, 3, 1, 0] rfl)
abbrev rmX8_slots : Room := { frames := 1, cells := 0, slots := 0, locals := 23 }
noncomputable def bX8_slots_23 (x2 : Int32) (k0 : Int32) (k1 : Int32) (g_now : Nat → Int32) : Option ((Int32 × Int32) ⊕ (Int32)) := lt_ (k0 + k1) (fun y1 => lt_ (x2 + (1 : Int32)) (fun y2 => some (Sum.inl ((y1, y2)))))
noncomputable def bX8_slots_4 (g_now : Nat → Int32) (x1 : Int32) (x2 : Int32) : Option ((Int32 × Int32) ⊕ (Int32)) := br ((4 : Int32) ≤ x2) (some (Sum.inr (x1))) (bd (fX8_manyOf x2 g_now) (fun u4 => br (u4 ≤ 0) (bX8_slots_23 x2 x1 (0 : Int32) g_now) (bX8_slots_23 x2 x1 (1 : Int32) g_now)))
noncomputable def sX8_slots_4 (g_now : Nat → Int32) : (Int32 × Int32) → Option ((Int32 × Int32) ⊕ (Int32)) := fun q => bX8_slots_4 g_now q.1 q.2
noncomputable def fX8_slots (g_now : Nat → Int32) : Option (Int32) := run (sX8_slots_4 g_now) (((0 : Int32), (0 : Int32)))
set_option maxHeartbeats 4000000 in
set_option maxRecDepth 100000 in
theorem cX8_slots_ct (l : Launch) (D : va_G) (cI cL cC cZ : ClassId) (a_this a_text a_now a_before a_read a_first a_second a_sums a_other a_grid a_order : Nat) (g_length : Int32) (g_undoMany : Int32) (g_spot : Int32) (g_step : Int32) (g_coverMany : Int32) (g_leastSums : Int32) (g_leastPart : Int32) (g_now : Nat → Int32) (r0 : Int32) (hf : fX8_slots g_now = some r0) : CtI l yX8_slots wsX8_slots rmX8_slots D (tyz cI cL cC cZ) [.ref a_this] [(a_this, .inr (8, [.int g_length, .ref a_text, .ref a_now, .ref a_before, .int g_undoMany, .ref a_read, .int g_spot, .ref a_first, .ref a_second, .ref a_sums, .ref a_other, .int g_step, .int g_coverMany, .ref a_grid, .ref a_order, .int g_leastSums, .int g_leastPart])), (a_now, .inl (cZ, 164, .inl g_now))] [(a_this, .inr (8, [.int g_length, .ref a_text, .ref a_now, .ref a_before, .int g_undoMany, .ref a_read, .int g_spot, .ref a_first, .ref a_second, .ref a_sums, .ref a_other, .int g_step, .int g_coverMany, .ref a_grid, .ref a_order, .int g_leastSums, .int g_leastPart])), (a_now, .inl (cZ, 164, .inl g_now))] r0 := by
  refine CtI.make (cc := cX8_slots) (maxL := 3) (ty := .int) (by decide) rfl (Nat.le_of_ble_eq_true rfl) ?_
  intro p e s m below meth c A ls C0 hN hA hP hD hl
  obtain ⟨hx, hb, hr, hml, hown, hts, hlk⟩ := id C0
  have hown : s.vm.findClass RX8 = some m.cls := hown
  have hS : va_S A s.heap s.heap [] := va_S.rf
  have hP : va_P D vwCl [(a_this, .inr (8, [.int g_length, .ref a_text, .ref a_now, .ref a_before, .int g_undoMany, .ref a_read, .int g_spot, .ref a_first, .ref a_second, .ref a_sums, .ref a_other, .int g_step, .int g_coverMany, .ref a_grid, .ref a_order, .int g_leastSums, .int g_leastPart])), (a_now, .inl (cZ, 164, .inl g_now))] s.heap := hP
  have hD : va_D A [(a_this, .inr (8, [.int g_length, .ref a_text, .ref a_now, .ref a_before, .int g_undoMany, .ref a_read, .int g_spot, .ref a_first, .ref a_second, .ref a_sums, .ref a_other, .int g_step, .int g_coverMany, .ref a_grid, .ref a_order, .int g_leastSums, .int g_leastPart])), (a_now, .inl (cZ, 164, .inl g_now))] := hD
  have hl : lv_has ls 3 [(0, .ref a_this)] := hl
  have z1 := cwV (R := rmX8_slots) (rm := rmX8_manyOf) (mc := 0) (ms := 0) 1 hts gX8_slots_X8_manyOf rfl rfl rfl (by decide +kernel) ⟨Nat.le_of_ble_eq_true rfl, Nat.le_of_ble_eq_true rfl⟩
  have w4 : ∀ (g_now : Nat → Int32) (x1 : Int32) (x2 : Int32) (t : Int32) (H : Heap) (locs : List Loc) (ls : Array Slot), run (sX8_slots_4 g_now) ((x1, x2)) = some t → (fun z => z = r0) t → va_P D vwCl [(a_this, .inr (8, [.int g_length, .ref a_text, .ref a_now, .ref a_before, .int g_undoMany, .ref a_read, .int g_spot, .ref a_first, .ref a_second, .ref a_sums, .ref a_other, .int g_step, .int g_coverMany, .ref a_grid, .ref a_order, .int g_leastSums, .int g_leastPart])), (a_now, .inl (cZ, 164, .inl g_now))] H → va_D A [(a_this, .inr (8, [.int g_length, .ref a_text, .ref a_now, .ref a_before, .int g_undoMany, .ref a_read, .int g_spot, .ref a_first, .ref a_second, .ref a_sums, .ref a_other, .int g_step, .int g_coverMany, .ref a_grid, .ref a_order, .int g_leastSums, .int g_leastPart])), (a_now, .inl (cZ, 164, .inl g_now))] → va_S A s.heap H locs → lv_has ls 3 [(0, .ref a_this), (1, .int x1), (2, .int x2)] → W p l e rmX8_slots s m ([.ref a_this] : List Value).toArray below meth c H locs 0 0 (MQ below (cQi D r0 A [(a_this, .inr (8, [.int g_length, .ref a_text, .ref a_now, .ref a_before, .int g_undoMany, .ref a_read, .int g_spot, .ref a_first, .ref a_second, .ref a_sums, .ref a_other, .int g_step, .int g_coverMany, .ref a_grid, .ref a_order, .int g_leastSums, .int g_leastPart])), (a_now, .inl (cZ, 164, .inl g_now))]) ([.ref a_this] : List Value).toArray s 0 0 A) (F0 m 4 ls []) := by
    intro g_now
    obtain ⟨F4, eF4⟩ : ∃ F : (Int32 × Int32) → Prop, F = fun q => ∀ (H : Heap) (locs : List Loc) (ls : Array Slot), va_P D vwCl [(a_this, .inr (8, [.int g_length, .ref a_text, .ref a_now, .ref a_before, .int g_undoMany, .ref a_read, .int g_spot, .ref a_first, .ref a_second, .ref a_sums, .ref a_other, .int g_step, .int g_coverMany, .ref a_grid, .ref a_order, .int g_leastSums, .int g_leastPart])), (a_now, .inl (cZ, 164, .inl g_now))] H → va_D A [(a_this, .inr (8, [.int g_length, .ref a_text, .ref a_now, .ref a_before, .int g_undoMany, .ref a_read, .int g_spot, .ref a_first, .ref a_second, .ref a_sums, .ref a_other, .int g_step, .int g_coverMany, .ref a_grid, .ref a_order, .int g_leastSums, .int g_leastPart])), (a_now, .inl (cZ, 164, .inl g_now))] → va_S A s.heap H locs → lv_has ls 3 [(0, .ref a_this), (1, .int q.1), (2, .int q.2)] → W p l e rmX8_slots s m ([.ref a_this] : List Value).toArray below meth c H locs 0 0 (MQ below (cQi D r0 A [(a_this, .inr (8, [.int g_length, .ref a_text, .ref a_now, .ref a_before, .int g_undoMany, .ref a_read, .int g_spot, .ref a_first, .ref a_second, .ref a_sums, .ref a_other, .int g_step, .int g_coverMany, .ref a_grid, .ref a_order, .int g_leastSums, .int g_leastPart])), (a_now, .inl (cZ, 164, .inl g_now))]) ([.ref a_this] : List Value).toArray s 0 0 A) (F0 m 4 ls []) := ⟨_, rfl⟩
    have key : ∀ (q : Int32 × Int32) (t : Int32), run (sX8_slots_4 g_now) q = some t → (fun z => z = r0) t → F4 q := by
      refine loop_rule (sX8_slots_4 g_now) F4 (fun z => z = r0) ?_
      intro q t hf hF
      have hF : (Sum.elim F4 (fun z => z = r0)) t := hF
      have w23 : ∀ (x2 : Int32) (k0 : Int32) (k1 : Int32) (t : (Int32 × Int32) ⊕ (Int32)) (H : Heap) (locs : List Loc) (ls : Array Slot), bX8_slots_23 x2 k0 k1 g_now = some t → (Sum.elim F4 (fun z => z = r0)) t → va_P D vwCl [(a_this, .inr (8, [.int g_length, .ref a_text, .ref a_now, .ref a_before, .int g_undoMany, .ref a_read, .int g_spot, .ref a_first, .ref a_second, .ref a_sums, .ref a_other, .int g_step, .int g_coverMany, .ref a_grid, .ref a_order, .int g_leastSums, .int g_leastPart])), (a_now, .inl (cZ, 164, .inl g_now))] H → va_D A [(a_this, .inr (8, [.int g_length, .ref a_text, .ref a_now, .ref a_before, .int g_undoMany, .ref a_read, .int g_spot, .ref a_first, .ref a_second, .ref a_sums, .ref a_other, .int g_step, .int g_coverMany, .ref a_grid, .ref a_order, .int g_leastSums, .int g_leastPart])), (a_now, .inl (cZ, 164, .inl g_now))] → va_S A s.heap H locs → lv_has ls 3 [(0, .ref a_this), (2, .int x2)] → W p l e rmX8_slots s m ([.ref a_this] : List Value).toArray below meth c H locs 0 0 (MQ below (cQi D r0 A [(a_this, .inr (8, [.int g_length, .ref a_text, .ref a_now, .ref a_before, .int g_undoMany, .ref a_read, .int g_spot, .ref a_first, .ref a_second, .ref a_sums, .ref a_other, .int g_step, .int g_coverMany, .ref a_grid, .ref a_order, .int g_leastSums, .int g_leastPart])), (a_now, .inl (cZ, 164, .inl g_now))]) ([.ref a_this] : List Value).toArray s 0 0 A) (F0 m 23 ls [.int k1, .int k0]) := by
        intro x2 k0 k1 t H locs ls hf hF hP hD hS hl
        unfold bX8_slots_23 at hf
        refine lv_iadd hx hb dX8_slots_23 ?_
        refine lv_topi (fun y1 ey1 => ?_)
        have hf := lt_some hf y1 ey1
        refine lv_istore_n (lv' := [(1, .int y1), (0, .ref a_this), (2, .int x2)]) hx hb dX8_slots_24 rfl hl (by decide) rfl (fun ls hl => ?_)
        obtain ⟨y2, ey2⟩ : ∃ z : Int32, z = x2 + (1 : Int32) := ⟨_, rfl⟩
        have hf := lt_some hf y2 ey2
        refine lv_iinc (v := y2) (lv' := [(2, .int y2), (1, .int y1), (0, .ref a_this)]) hx hb dX8_slots_25 hl (k := 2) rfl (by rw [ey2]; rfl) (by decide) rfl (fun ls hl => ?_)
        refine lv_goto (tgt := 4) hx hb dX8_slots_28 (by decide) ?_
        cases hf
        exact ((congrFun eF4 _).mp hF) H locs ls hP hD hS (lv_sub hl [2, 1, 0] rfl)
      rw [eF4]
      obtain ⟨x1, x2⟩ := q
      intro H locs ls hP hD hS hl
      have hP : va_P D vwCl [(a_this, .inr (8, [.int g_length, .ref a_text, .ref a_now, .ref a_before, .int g_undoMany, .ref a_read, .int g_spot, .ref a_first, .ref a_second, .ref a_sums, .ref a_other, .int g_step, .int g_coverMany, .ref a_grid, .ref a_order, .int g_leastSums, .int g_leastPart])), (a_now, .inl (cZ, 164, .inl g_now))] H := hP
      have hD : va_D A [(a_this, .inr (8, [.int g_length, .ref a_text, .ref a_now, .ref a_before, .int g_undoMany, .ref a_read, .int g_spot, .ref a_first, .ref a_second, .ref a_sums, .ref a_other, .int g_step, .int g_coverMany, .ref a_grid, .ref a_order, .int g_leastSums, .int g_leastPart])), (a_now, .inl (cZ, 164, .inl g_now))] := hD
      have hl : lv_has ls 3 [(0, .ref a_this), (1, .int x1), (2, .int x2)] := hl
      have hf : bX8_slots_4 g_now x1 x2 = some t := hf
      unfold bX8_slots_4 at hf
      refine lv_iload_n hx hb dX8_slots_4 rfl (lv_at hl 2 rfl) ?_
      refine lv_iconst (v := 4) hx hb dX8_slots_5 (by decide) ?_
      refine lv_icmp_ge (tgt := 31) hx hb dX8_slots_6 (by decide) (fun c3 => ?_) (fun c3 => ?_)
      · have hf := br_pos c3 hf
        refine lv_iload_n hx hb dX8_slots_31 rfl (lv_at hl 1 rfl) ?_
        cases hf
        have hE : x1 = r0 := hF
        subst hE
        exact rtI hx hb hr hlk hP hD hS dX8_slots_32
      · have hf := br_neg c3 hf
        refine lv_iload_n hx hb dX8_slots_9 rfl (lv_at hl 1 rfl) ?_
        refine lv_aload_n hx hb dX8_slots_10 rfl (lv_at hl 0 rfl) ?_
        refine lv_iload_n hx hb dX8_slots_11 rfl (lv_at hl 2 rfl) ?_
        obtain ⟨u4, hu4, hf⟩ := bd_some hf
        refine caVI (rest := [.int x1]) (As := [.int x2]) (wr := []) (wo := [(a_this, .inr (8, [.int g_length, .ref a_text, .ref a_now, .ref a_before, .int g_undoMany, .ref a_read, .int g_spot, .ref a_first, .ref a_second, .ref a_sums, .ref a_other, .int g_step, .int g_coverMany, .ref a_grid, .ref a_order, .int g_leastSums, .int g_leastPart])), (a_now, .inl (cZ, 164, .inl g_now))]) ⟨hx, hb, hml, hown, hts⟩ hN hP hD hS hA (cX8_manyOf_ct l D cI cL cC cZ a_this a_text a_now a_before a_read a_first a_second a_sums a_other a_grid a_order g_length g_undoMany g_spot g_step g_coverMany g_leastSums g_leastPart g_now x2 u4 hu4) z1 0 8 rfl rfl [0, 1] [] [0, 1] rfl (by decide) rfl (by decide) (by decide) rfl (by decide) rfl hl.1 rfl (Nat.le_of_ble_eq_true rfl) dX8_slots_12 ⟨Nat.zero_le _, Nat.zero_le _⟩ (fun H locs hP hD hS => ?_)
        refine lv_if_le (tgt := 22) hx hb dX8_slots_15 (by decide) (fun c5 => ?_) (fun c5 => ?_)
        · have hf := br_pos c5 hf
          refine lv_iconst (v := 0) hx hb dX8_slots_22 (by decide) ?_
          exact w23 x2 x1 (0 : Int32) _ H locs ls hf hF hP hD hS (lv_sub hl [0, 2] rfl)
        · have hf := br_neg c5 hf
          refine lv_iconst (v := 1) hx hb dX8_slots_18 (by decide) ?_
          refine lv_goto (tgt := 23) hx hb dX8_slots_19 (by decide) ?_
          exact w23 x2 x1 (1 : Int32) _ H locs ls hf hF hP hD hS (lv_sub hl [0, 2] rfl)
    intro x1 x2 t H locs ls hf hF hP hD hS hl
    exact ((congrFun eF4 _).mp (key ((x1, x2)) t hf hF)) H locs ls hP hD hS hl
  unfold fX8_slots at hf
  obtain ⟨H, eH⟩ : ∃ z, z = s.heap := ⟨_, rfl⟩
  obtain ⟨locs, eL⟩ : ∃ z : List Loc, z = [] := ⟨_, rfl⟩
  have hP : va_P D vwCl [(a_this, .inr (8, [.int g_length, .ref a_text, .ref a_now, .ref a_before, .int g_undoMany, .ref a_read, .int g_spot, .ref a_first, .ref a_second, .ref a_sums, .ref a_other, .int g_step, .int g_coverMany, .ref a_grid, .ref a_order, .int g_leastSums, .int g_leastPart])), (a_now, .inl (cZ, 164, .inl g_now))] H := by rw [eH]; exact hP
  have hS : va_S A s.heap H locs := by rw [eH, eL]; exact hS
  suffices hG : W p l e rmX8_slots s m ([.ref a_this] : List Value).toArray below meth c H locs 0 0 (MQ below (cQi D r0 A [(a_this, .inr (8, [.int g_length, .ref a_text, .ref a_now, .ref a_before, .int g_undoMany, .ref a_read, .int g_spot, .ref a_first, .ref a_second, .ref a_sums, .ref a_other, .int g_step, .int g_coverMany, .ref a_grid, .ref a_order, .int g_leastSums, .int g_leastPart])), (a_now, .inl (cZ, 164, .inl g_now))]) ([.ref a_this] : List Value).toArray s 0 0 A) (F0 m 0 ls []) by rw [eH, eL] at hG; exact hG
  refine lv_iconst (v := 0) hx hb dX8_slots_0 (by decide) ?_
  refine lv_istore_n (lv' := [(1, .int (0 : Int32)), (0, .ref a_this)]) hx hb dX8_slots_1 rfl hl (by decide) rfl (fun ls hl => ?_)
  refine lv_iconst (v := 0) hx hb dX8_slots_2 (by decide) ?_
  refine lv_istore_n (lv' := [(2, .int (0 : Int32)), (1, .int (0 : Int32)), (0, .ref a_this)]) hx hb dX8_slots_3 rfl hl (by decide) rfl (fun ls hl => ?_)
  exact w4 g_now (0 : Int32) (0 : Int32) r0 H locs ls hf rfl hP hD hS (lv_sub hl [2, 1, 0] rfl)
abbrev rmX8_lay : Room := { frames := 4, cells := 0, slots := 0, locals := 94 }
noncomputable def bX8_lay_14 (g_length : Int32) (g_undoMany : Int32) (g_spot : Int32) (g_text : Nat → Int32) (g_read : Nat → Int32) (x1 : Int32) (g_now : Nat → Int32) : Option ((Int32 × (Nat → Int32)) ⊕ (Int32 × Int32 × Int32 × (Nat → Int32) × (Nat → Int32))) := br ((164 : Int32) ≤ x1) (bd (fX8_slots g_now) (fun u2 => some (Sum.inr ((u2, (0 : Int32), g_spot, g_now, g_read))))) (gd (¬ x1 < 0 ∧ x1.toNatClampNeg < 164) (lt_ (g_read x1.toNatClampNeg) (fun y4 => gd (¬ x1 < 0 ∧ x1.toNatClampNeg < 164) (lt_ (upd g_now x1.toNatClampNeg (vp_nar .boolean y4)) (fun y6 => lt_ (x1 + (1 : Int32)) (fun y7 => some (Sum.inl ((y7, y6)))))))))
noncomputable def sX8_lay_14 (g_length : Int32) (g_undoMany : Int32) (g_spot : Int32) (g_text : Nat → Int32) (g_read : Nat → Int32) : (Int32 × (Nat → Int32)) → Option ((Int32 × (Nat → Int32)) ⊕ (Int32 × Int32 × Int32 × (Nat → Int32) × (Nat → Int32))) := fun q => bX8_lay_14 g_length g_undoMany g_spot g_text g_read q.1 q.2
noncomputable def fX8_lay (g_length : Int32) (g_undoMany : Int32) (g_spot : Int32) (g_text : Nat → Int32) (g_now : Nat → Int32) (g_read : Nat → Int32) : Option (Int32 × Int32 × Int32 × (Nat → Int32) × (Nat → Int32)) := bd (fX8_fault g_length g_spot g_text g_read) (fun u8 => br (u8.1 = (-4 : Int32)) (run (sX8_lay_14 g_length g_undoMany u8.2.1 g_text u8.2.2) (((0 : Int32), g_now))) (some (((-2 : Int32), g_undoMany, u8.2.1, g_now, u8.2.2))))
set_option maxHeartbeats 4000000 in
set_option maxRecDepth 100000 in
theorem cX8_lay_ct (l : Launch) (D : va_G) (cI cL cC cZ : ClassId) (a_this a_text a_now a_before a_read a_first a_second a_sums a_other a_grid a_order : Nat) (g_length : Int32) (g_undoMany : Int32) (g_spot : Int32) (g_step : Int32) (g_coverMany : Int32) (g_leastSums : Int32) (g_leastPart : Int32) (g_text : Nat → Int32) (g_now : Nat → Int32) (g_read : Nat → Int32) (r0 : Int32) (v_undoMany : Int32) (v_spot : Int32) (v_now : Nat → Int32) (v_read : Nat → Int32) (hf : fX8_lay g_length g_undoMany g_spot g_text g_now g_read = some ((r0, v_undoMany, v_spot, v_now, v_read))) : CtI l yX8_lay wsX8_lay rmX8_lay D (tyz cI cL cC cZ) [.ref a_this] [(a_this, .inr (8, [.int g_length, .ref a_text, .ref a_now, .ref a_before, .int g_undoMany, .ref a_read, .int g_spot, .ref a_first, .ref a_second, .ref a_sums, .ref a_other, .int g_step, .int g_coverMany, .ref a_grid, .ref a_order, .int g_leastSums, .int g_leastPart])), (a_text, .inl (cI, 200, .inl g_text)), (a_now, .inl (cZ, 164, .inl g_now)), (a_read, .inl (cZ, 164, .inl g_read))] [(a_this, .inr (8, [.int g_length, .ref a_text, .ref a_now, .ref a_before, .int v_undoMany, .ref a_read, .int v_spot, .ref a_first, .ref a_second, .ref a_sums, .ref a_other, .int g_step, .int g_coverMany, .ref a_grid, .ref a_order, .int g_leastSums, .int g_leastPart])), (a_text, .inl (cI, 200, .inl g_text)), (a_now, .inl (cZ, 164, .inl v_now)), (a_read, .inl (cZ, 164, .inl v_read))] r0 := by
  refine CtI.make (cc := cX8_lay) (maxL := 2) (ty := .int) (by decide) rfl (Nat.le_of_ble_eq_true rfl) ?_
  intro p e s m below meth c A ls C0 hN hA hP hD hl
  obtain ⟨hx, hb, hr, hml, hown, hts, hlk⟩ := id C0
  have hown : s.vm.findClass RX8 = some m.cls := hown
  have hS : va_S A s.heap s.heap [] := va_S.rf
  have hP : va_P D vwCl [(a_this, .inr (8, [.int g_length, .ref a_text, .ref a_now, .ref a_before, .int g_undoMany, .ref a_read, .int g_spot, .ref a_first, .ref a_second, .ref a_sums, .ref a_other, .int g_step, .int g_coverMany, .ref a_grid, .ref a_order, .int g_leastSums, .int g_leastPart])), (a_text, .inl (cI, 200, .inl g_text)), (a_now, .inl (cZ, 164, .inl g_now)), (a_read, .inl (cZ, 164, .inl g_read))] s.heap := hP
  have hD : va_D A [(a_this, .inr (8, [.int g_length, .ref a_text, .ref a_now, .ref a_before, .int g_undoMany, .ref a_read, .int g_spot, .ref a_first, .ref a_second, .ref a_sums, .ref a_other, .int g_step, .int g_coverMany, .ref a_grid, .ref a_order, .int g_leastSums, .int g_leastPart])), (a_text, .inl (cI, 200, .inl g_text)), (a_now, .inl (cZ, 164, .inl g_now)), (a_read, .inl (cZ, 164, .inl g_read))] := hD
  have hl : lv_has ls 2 [(0, .ref a_this)] := hl
  have z1 : ∀ w ∈ u_ws RX8 TX8 17, w ∈ wsX8_lay := by decide +kernel
  have z2 := hts (.fieldLink RX8 81 "LittleSumsModel" "undoMany" "I") (by decide +kernel)
  have z3 := cwV (R := rmX8_lay) (rm := rmX8_slots) (mc := 0) (ms := 0) 0 hts gX8_lay_X8_slots rfl rfl rfl (by decide +kernel) ⟨Nat.le_of_ble_eq_true rfl, Nat.le_of_ble_eq_true rfl⟩
  have z4 := hts (.fieldLink RX8 13 "LittleSumsModel" "now" "[Z") (by decide +kernel)
  have z5 := hts (.fieldLink RX8 20 "LittleSumsModel" "read" "[Z") (by decide +kernel)
  have z6 := cwV (R := rmX8_lay) (rm := rmX8_fault) (mc := 0) (ms := 0) 0 hts gX8_lay_X8_fault rfl rfl rfl (by decide +kernel) ⟨Nat.le_of_ble_eq_true rfl, Nat.le_of_ble_eq_true rfl⟩
  have w14 : ∀ (g_length : Int32) (g_undoMany : Int32) (g_spot : Int32) (g_text : Nat → Int32) (g_read : Nat → Int32) (x1 : Int32) (g_now : Nat → Int32) (t : Int32 × Int32 × Int32 × (Nat → Int32) × (Nat → Int32)) (H : Heap) (locs : List Loc) (ls : Array Slot), run (sX8_lay_14 g_length g_undoMany g_spot g_text g_read) ((x1, g_now)) = some t → (fun z => z = (r0, v_undoMany, v_spot, v_now, v_read)) t → va_P D vwCl [(a_this, .inr (8, [.int g_length, .ref a_text, .ref a_now, .ref a_before, .int g_undoMany, .ref a_read, .int g_spot, .ref a_first, .ref a_second, .ref a_sums, .ref a_other, .int g_step, .int g_coverMany, .ref a_grid, .ref a_order, .int g_leastSums, .int g_leastPart])), (a_text, .inl (cI, 200, .inl g_text)), (a_now, .inl (cZ, 164, .inl g_now)), (a_read, .inl (cZ, 164, .inl g_read))] H → va_D A [(a_this, .inr (8, [.int g_length, .ref a_text, .ref a_now, .ref a_before, .int g_undoMany, .ref a_read, .int g_spot, .ref a_first, .ref a_second, .ref a_sums, .ref a_other, .int g_step, .int g_coverMany, .ref a_grid, .ref a_order, .int g_leastSums, .int g_leastPart])), (a_text, .inl (cI, 200, .inl g_text)), (a_now, .inl (cZ, 164, .inl g_now)), (a_read, .inl (cZ, 164, .inl g_read))] → va_S A s.heap H locs → lv_has ls 2 [(0, .ref a_this), (1, .int x1)] → W p l e rmX8_lay s m ([.ref a_this] : List Value).toArray below meth c H locs 0 0 (MQ below (cQi D r0 A [(a_this, .inr (8, [.int g_length, .ref a_text, .ref a_now, .ref a_before, .int v_undoMany, .ref a_read, .int v_spot, .ref a_first, .ref a_second, .ref a_sums, .ref a_other, .int g_step, .int g_coverMany, .ref a_grid, .ref a_order, .int g_leastSums, .int g_leastPart])), (a_text, .inl (cI, 200, .inl g_text)), (a_now, .inl (cZ, 164, .inl v_now)), (a_read, .inl (cZ, 164, .inl v_read))]) ([.ref a_this] : List Value).toArray s 0 0 A) (F0 m 14 ls []) := by
    intro g_length g_undoMany g_spot g_text g_read
    obtain ⟨F14, eF14⟩ : ∃ F : (Int32 × (Nat → Int32)) → Prop, F = fun q => ∀ (H : Heap) (locs : List Loc) (ls : Array Slot), va_P D vwCl [(a_this, .inr (8, [.int g_length, .ref a_text, .ref a_now, .ref a_before, .int g_undoMany, .ref a_read, .int g_spot, .ref a_first, .ref a_second, .ref a_sums, .ref a_other, .int g_step, .int g_coverMany, .ref a_grid, .ref a_order, .int g_leastSums, .int g_leastPart])), (a_text, .inl (cI, 200, .inl g_text)), (a_now, .inl (cZ, 164, .inl q.2)), (a_read, .inl (cZ, 164, .inl g_read))] H → va_D A [(a_this, .inr (8, [.int g_length, .ref a_text, .ref a_now, .ref a_before, .int g_undoMany, .ref a_read, .int g_spot, .ref a_first, .ref a_second, .ref a_sums, .ref a_other, .int g_step, .int g_coverMany, .ref a_grid, .ref a_order, .int g_leastSums, .int g_leastPart])), (a_text, .inl (cI, 200, .inl g_text)), (a_now, .inl (cZ, 164, .inl q.2)), (a_read, .inl (cZ, 164, .inl g_read))] → va_S A s.heap H locs → lv_has ls 2 [(0, .ref a_this), (1, .int q.1)] → W p l e rmX8_lay s m ([.ref a_this] : List Value).toArray below meth c H locs 0 0 (MQ below (cQi D r0 A [(a_this, .inr (8, [.int g_length, .ref a_text, .ref a_now, .ref a_before, .int v_undoMany, .ref a_read, .int v_spot, .ref a_first, .ref a_second, .ref a_sums, .ref a_other, .int g_step, .int g_coverMany, .ref a_grid, .ref a_order, .int g_leastSums, .int g_leastPart])), (a_text, .inl (cI, 200, .inl g_text)), (a_now, .inl (cZ, 164, .inl v_now)), (a_read, .inl (cZ, 164, .inl v_read))]) ([.ref a_this] : List Value).toArray s 0 0 A) (F0 m 14 ls []) := ⟨_, rfl⟩
    have key : ∀ (q : Int32 × (Nat → Int32)) (t : Int32 × Int32 × Int32 × (Nat → Int32) × (Nat → Int32)), run (sX8_lay_14 g_length g_undoMany g_spot g_text g_read) q = some t → (fun z => z = (r0, v_undoMany, v_spot, v_now, v_read)) t → F14 q := by
      refine loop_rule (sX8_lay_14 g_length g_undoMany g_spot g_text g_read) F14 (fun z => z = (r0, v_undoMany, v_spot, v_now, v_read)) ?_
      intro q t hf hF
      have hF : (Sum.elim F14 (fun z => z = (r0, v_undoMany, v_spot, v_now, v_read))) t := hF
      rw [eF14]
      obtain ⟨x1, g_now⟩ := q
      intro H locs ls hP hD hS hl
      have hP : va_P D vwCl [(a_this, .inr (8, [.int g_length, .ref a_text, .ref a_now, .ref a_before, .int g_undoMany, .ref a_read, .int g_spot, .ref a_first, .ref a_second, .ref a_sums, .ref a_other, .int g_step, .int g_coverMany, .ref a_grid, .ref a_order, .int g_leastSums, .int g_leastPart])), (a_text, .inl (cI, 200, .inl g_text)), (a_now, .inl (cZ, 164, .inl g_now)), (a_read, .inl (cZ, 164, .inl g_read))] H := hP
      have hD : va_D A [(a_this, .inr (8, [.int g_length, .ref a_text, .ref a_now, .ref a_before, .int g_undoMany, .ref a_read, .int g_spot, .ref a_first, .ref a_second, .ref a_sums, .ref a_other, .int g_step, .int g_coverMany, .ref a_grid, .ref a_order, .int g_leastSums, .int g_leastPart])), (a_text, .inl (cI, 200, .inl g_text)), (a_now, .inl (cZ, 164, .inl g_now)), (a_read, .inl (cZ, 164, .inl g_read))] := hD
      have hl : lv_has ls 2 [(0, .ref a_this), (1, .int x1)] := hl
      have hf : bX8_lay_14 g_length g_undoMany g_spot g_text g_read x1 g_now = some t := hf
      unfold bX8_lay_14 at hf
      refine lv_iload_n hx hb dX8_lay_14 rfl (lv_at hl 1 rfl) ?_
      refine lv_sipush (v := 164) hx hb dX8_lay_15 (by decide) ?_
      refine lv_icmp_ge (tgt := 39) hx hb dX8_lay_18 (by decide) (fun c1 => ?_) (fun c1 => ?_)
      · have hf := br_pos c1 hf
        refine lv_aload_n hx hb dX8_lay_39 rfl (lv_at hl 0 rfl) ?_
        refine lv_iconst (v := 0) hx hb dX8_lay_40 (by decide) ?_
        refine va_put (D := D) (ci := 8) (v := .int (0 : Int32)) (ty := .int) (C := RX8) (T := TX8) (N := 17) hx hb hts z1 tyX8 tyX8_ok nmX8 hown hN.1 hP hD hS 0 rfl rfl 4 (by decide) z2 (fun _ h9 => h9) rfl (by decide +kernel) rfl rfl (Nat.le_of_ble_eq_true rfl) dX8_lay_41 (fun H locs hP hD hS => ?_)
        have hP : va_P D vwCl [(a_this, .inr (8, [.int g_length, .ref a_text, .ref a_now, .ref a_before, .int (0 : Int32), .ref a_read, .int g_spot, .ref a_first, .ref a_second, .ref a_sums, .ref a_other, .int g_step, .int g_coverMany, .ref a_grid, .ref a_order, .int g_leastSums, .int g_leastPart])), (a_text, .inl (cI, 200, .inl g_text)), (a_now, .inl (cZ, 164, .inl g_now)), (a_read, .inl (cZ, 164, .inl g_read))] H := hP
        have hD : va_D A [(a_this, .inr (8, [.int g_length, .ref a_text, .ref a_now, .ref a_before, .int (0 : Int32), .ref a_read, .int g_spot, .ref a_first, .ref a_second, .ref a_sums, .ref a_other, .int g_step, .int g_coverMany, .ref a_grid, .ref a_order, .int g_leastSums, .int g_leastPart])), (a_text, .inl (cI, 200, .inl g_text)), (a_now, .inl (cZ, 164, .inl g_now)), (a_read, .inl (cZ, 164, .inl g_read))] := hD
        refine lv_aload_n hx hb dX8_lay_44 rfl (lv_at hl 0 rfl) ?_
        obtain ⟨u2, hu2, hf⟩ := bd_some hf
        refine caVI (rest := []) (As := []) (wr := [(a_text, .inl (cI, 200, .inl g_text)), (a_read, .inl (cZ, 164, .inl g_read))]) (wo := [(a_this, .inr (8, [.int g_length, .ref a_text, .ref a_now, .ref a_before, .int (0 : Int32), .ref a_read, .int g_spot, .ref a_first, .ref a_second, .ref a_sums, .ref a_other, .int g_step, .int g_coverMany, .ref a_grid, .ref a_order, .int g_leastSums, .int g_leastPart])), (a_text, .inl (cI, 200, .inl g_text)), (a_now, .inl (cZ, 164, .inl g_now)), (a_read, .inl (cZ, 164, .inl g_read))]) ⟨hx, hb, hml, hown, hts⟩ hN hP hD hS hA (cX8_slots_ct l D cI cL cC cZ a_this a_text a_now a_before a_read a_first a_second a_sums a_other a_grid a_order g_length (0 : Int32) g_spot g_step g_coverMany g_leastSums g_leastPart g_now u2 hu2) z3 0 8 rfl rfl [0, 2] [1, 3] [2, 0, 3, 1] rfl (by decide) rfl (by decide) (by decide) rfl (by decide) rfl hl.1 rfl (Nat.le_of_ble_eq_true rfl) dX8_lay_45 ⟨Nat.zero_le _, Nat.zero_le _⟩ (fun H locs hP hD hS => ?_)
        cases hf
        have hE : (u2, (0 : Int32), g_spot, g_now, g_read) = (r0, v_undoMany, v_spot, v_now, v_read) := hF
        simp only [Prod.mk.injEq] at hE
        obtain ⟨rfl, rfl, rfl, rfl, rfl⟩ := hE
        exact rtI hx hb hr hlk hP hD hS dX8_lay_48
      · have hf := br_neg c1 hf
        refine lv_aload_n hx hb dX8_lay_21 rfl (lv_at hl 0 rfl) ?_
        refine va_get (D := D) (ci := 8) (v := .ref a_now) (C := RX8) (T := TX8) (N := 17) hx hb hts z1 hown hN.1 hP 0 rfl rfl 2 (by decide) z4 (fun _ h9 => h9) rfl dX8_lay_22 ?_
        refine lv_iload_n hx hb dX8_lay_25 rfl (lv_at hl 1 rfl) ?_
        refine lv_aload_n hx hb dX8_lay_26 rfl (lv_at hl 0 rfl) ?_
        refine va_get (D := D) (ci := 8) (v := .ref a_read) (C := RX8) (T := TX8) (N := 17) hx hb hts z1 hown hN.1 hP 0 rfl rfl 5 (by decide) z5 (fun _ h9 => h9) rfl dX8_lay_27 ?_
        refine lv_iload_n hx hb dX8_lay_30 rfl (lv_at hl 1 rfl) ?_
        obtain ⟨c3, hf⟩ := gd_some hf
        refine va_zald hx hb hN.1 hP 3 3 rfl rfl (ix_in c3) dX8_lay_31 ?_
        refine lv_topi (fun y4 ey4 => ?_)
        have hf := lt_some hf y4 ey4
        obtain ⟨c5, hf⟩ := gd_some hf
        refine va_zast hx hb hN.1 hP hD hS 2 3 rfl rfl (ix_in c5) dX8_lay_32 (fun H locs hP hD hS => ?_)
        obtain ⟨y6, ey6⟩ : ∃ z, z = upd g_now x1.toNatClampNeg (vp_nar .boolean y4) := ⟨_, rfl⟩
        have hf := lt_some hf y6 ey6
        have hP : va_P D vwCl [(a_this, .inr (8, [.int g_length, .ref a_text, .ref a_now, .ref a_before, .int g_undoMany, .ref a_read, .int g_spot, .ref a_first, .ref a_second, .ref a_sums, .ref a_other, .int g_step, .int g_coverMany, .ref a_grid, .ref a_order, .int g_leastSums, .int g_leastPart])), (a_text, .inl (cI, 200, .inl g_text)), (a_now, .inl (cZ, 164, .inl y6)), (a_read, .inl (cZ, 164, .inl g_read))] H := by rw [ey6]; exact hP
        have hD : va_D A [(a_this, .inr (8, [.int g_length, .ref a_text, .ref a_now, .ref a_before, .int g_undoMany, .ref a_read, .int g_spot, .ref a_first, .ref a_second, .ref a_sums, .ref a_other, .int g_step, .int g_coverMany, .ref a_grid, .ref a_order, .int g_leastSums, .int g_leastPart])), (a_text, .inl (cI, 200, .inl g_text)), (a_now, .inl (cZ, 164, .inl y6)), (a_read, .inl (cZ, 164, .inl g_read))] := by rw [ey6]; exact hD
        obtain ⟨y7, ey7⟩ : ∃ z : Int32, z = x1 + (1 : Int32) := ⟨_, rfl⟩
        have hf := lt_some hf y7 ey7
        refine lv_iinc (v := y7) (lv' := [(1, .int y7), (0, .ref a_this)]) hx hb dX8_lay_33 hl (k := 1) rfl (by rw [ey7]; rfl) (by decide) rfl (fun ls hl => ?_)
        refine lv_goto (tgt := 14) hx hb dX8_lay_36 (by decide) ?_
        cases hf
        exact ((congrFun eF14 _).mp hF) H locs ls hP hD hS (lv_sub hl [1, 0] rfl)
    intro x1 g_now t H locs ls hf hF hP hD hS hl
    exact ((congrFun eF14 _).mp (key ((x1, g_now)) t hf hF)) H locs ls hP hD hS hl
  unfold fX8_lay at hf
  obtain ⟨H, eH⟩ : ∃ z, z = s.heap := ⟨_, rfl⟩
  obtain ⟨locs, eL⟩ : ∃ z : List Loc, z = [] := ⟨_, rfl⟩
  have hP : va_P D vwCl [(a_this, .inr (8, [.int g_length, .ref a_text, .ref a_now, .ref a_before, .int g_undoMany, .ref a_read, .int g_spot, .ref a_first, .ref a_second, .ref a_sums, .ref a_other, .int g_step, .int g_coverMany, .ref a_grid, .ref a_order, .int g_leastSums, .int g_leastPart])), (a_text, .inl (cI, 200, .inl g_text)), (a_now, .inl (cZ, 164, .inl g_now)), (a_read, .inl (cZ, 164, .inl g_read))] H := by rw [eH]; exact hP
  have hS : va_S A s.heap H locs := by rw [eH, eL]; exact hS
  suffices hG : W p l e rmX8_lay s m ([.ref a_this] : List Value).toArray below meth c H locs 0 0 (MQ below (cQi D r0 A [(a_this, .inr (8, [.int g_length, .ref a_text, .ref a_now, .ref a_before, .int v_undoMany, .ref a_read, .int v_spot, .ref a_first, .ref a_second, .ref a_sums, .ref a_other, .int g_step, .int g_coverMany, .ref a_grid, .ref a_order, .int g_leastSums, .int g_leastPart])), (a_text, .inl (cI, 200, .inl g_text)), (a_now, .inl (cZ, 164, .inl v_now)), (a_read, .inl (cZ, 164, .inl v_read))]) ([.ref a_this] : List Value).toArray s 0 0 A) (F0 m 0 ls []) by rw [eH, eL] at hG; exact hG
  refine lv_aload_n hx hb dX8_lay_0 rfl (lv_at hl 0 rfl) ?_
  obtain ⟨u8, hu8, hf⟩ := bd_some hf
  refine caVI (rest := []) (As := []) (wr := [(a_now, .inl (cZ, 164, .inl g_now))]) (wo := [(a_this, .inr (8, [.int g_length, .ref a_text, .ref a_now, .ref a_before, .int g_undoMany, .ref a_read, .int u8.2.1, .ref a_first, .ref a_second, .ref a_sums, .ref a_other, .int g_step, .int g_coverMany, .ref a_grid, .ref a_order, .int g_leastSums, .int g_leastPart])), (a_text, .inl (cI, 200, .inl g_text)), (a_now, .inl (cZ, 164, .inl g_now)), (a_read, .inl (cZ, 164, .inl u8.2.2))]) ⟨hx, hb, hml, hown, hts⟩ hN hP hD hS hA (cX8_fault_ct l D cI cL cC cZ a_this a_text a_now a_before a_read a_first a_second a_sums a_other a_grid a_order g_length g_undoMany g_spot g_step g_coverMany g_leastSums g_leastPart g_text g_read u8.1 u8.2.1 u8.2.2 hu8) z6 0 8 rfl rfl [0, 1, 3] [2] [1, 2, 0, 3] rfl (by decide) rfl (by decide) (by decide) rfl (by decide) rfl hl.1 rfl (Nat.le_of_ble_eq_true rfl) dX8_lay_1 ⟨Nat.zero_le _, Nat.zero_le _⟩ (fun H locs hP hD hS => ?_)
  refine lv_bipush (v := -4) hx hb dX8_lay_4 (by decide) ?_
  refine lv_icmp_eq (tgt := 12) hx hb dX8_lay_6 (by decide) (fun c9 => ?_) (fun c9 => ?_)
  · have hf := br_pos c9 hf
    refine lv_iconst (v := 0) hx hb dX8_lay_12 (by decide) ?_
    refine lv_istore_n (lv' := [(1, .int (0 : Int32)), (0, .ref a_this)]) hx hb dX8_lay_13 rfl hl (by decide) rfl (fun ls hl => ?_)
    exact w14 g_length g_undoMany u8.2.1 g_text u8.2.2 (0 : Int32) g_now (r0, v_undoMany, v_spot, v_now, v_read) H locs ls hf rfl hP hD hS (lv_sub hl [1, 0] rfl)
  · have hf := br_neg c9 hf
    refine lv_bipush (v := -2) hx hb dX8_lay_9 (by decide) ?_
    have hE : ((-2 : Int32), g_undoMany, u8.2.1, g_now, u8.2.2) = (r0, v_undoMany, v_spot, v_now, v_read) := Option.some.inj hf
    simp only [Prod.mk.injEq] at hE
    obtain ⟨rfl, rfl, rfl, rfl, rfl⟩ := hE
    exact rtI hx hb hr hlk hP hD hS dX8_lay_11
abbrev rmX8_note : Room := { frames := 0, cells := 0, slots := 0, locals := 0 }
noncomputable def bX8_note_52 (g_undoMany : Int32) (g_now : Nat → Int32) (x1 : Int32) (g_before : Nat → Int32) : Option ((Int32 × (Nat → Int32)) ⊕ (Int32 × (Nat → Int32))) := br ((164 : Int32) ≤ x1) (lt_ (g_undoMany + (1 : Int32)) (fun y2 => some (Sum.inr ((y2, g_before))))) (gd (¬ x1 < 0 ∧ x1.toNatClampNeg < 164) (lt_ (g_now x1.toNatClampNeg) (fun y4 => gd (¬ (((164 : Int32) * g_undoMany) + x1) < 0 ∧ (((164 : Int32) * g_undoMany) + x1).toNatClampNeg < 984) (lt_ (upd g_before (((164 : Int32) * g_undoMany) + x1).toNatClampNeg (vp_nar .boolean y4)) (fun y6 => lt_ (x1 + (1 : Int32)) (fun y7 => some (Sum.inl ((y7, y6)))))))))
noncomputable def sX8_note_52 (g_undoMany : Int32) (g_now : Nat → Int32) : (Int32 × (Nat → Int32)) → Option ((Int32 × (Nat → Int32)) ⊕ (Int32 × (Nat → Int32))) := fun q => bX8_note_52 g_undoMany g_now q.1 q.2
noncomputable def bX8_note_50 (g_undoMany : Int32) (g_now : Nat → Int32) (g_before : Nat → Int32) : Option (Int32 × (Nat → Int32)) := run (sX8_note_52 g_undoMany g_now) (((0 : Int32), g_before))
noncomputable def bX8_note_11 (g_undoMany : Int32) (g_now : Nat → Int32) (x1 : Int32) (g_before : Nat → Int32) : Option ((Int32 × (Nat → Int32)) ⊕ (Int32 × (Nat → Int32))) := br ((820 : Int32) ≤ x1) (lt_ (g_undoMany - (1 : Int32)) (fun y9 => ml (bX8_note_50 y9 g_now g_before))) (gd (¬ ((164 : Int32) + x1) < 0 ∧ ((164 : Int32) + x1).toNatClampNeg < 984) (lt_ (g_before ((164 : Int32) + x1).toNatClampNeg) (fun y12 => gd (¬ x1 < 0 ∧ x1.toNatClampNeg < 984) (lt_ (upd g_before x1.toNatClampNeg (vp_nar .boolean y12)) (fun y14 => lt_ (x1 + (1 : Int32)) (fun y15 => some (Sum.inl ((y15, y14)))))))))
noncomputable def sX8_note_11 (g_undoMany : Int32) (g_now : Nat → Int32) : (Int32 × (Nat → Int32)) → Option ((Int32 × (Nat → Int32)) ⊕ (Int32 × (Nat → Int32))) := fun q => bX8_note_11 g_undoMany g_now q.1 q.2
noncomputable def fX8_note (g_undoMany : Int32) (g_now : Nat → Int32) (g_before : Nat → Int32) : Option (Int32 × (Nat → Int32)) := br (g_undoMany = (6 : Int32)) (run (sX8_note_11 g_undoMany g_now) (((0 : Int32), g_before))) (bX8_note_50 g_undoMany g_now g_before)
set_option maxHeartbeats 4000000 in
set_option maxRecDepth 100000 in
theorem cX8_note_ct (l : Launch) (D : va_G) (cI cL cC cZ : ClassId) (a_this a_text a_now a_before a_read a_first a_second a_sums a_other a_grid a_order : Nat) (g_length : Int32) (g_undoMany : Int32) (g_spot : Int32) (g_step : Int32) (g_coverMany : Int32) (g_leastSums : Int32) (g_leastPart : Int32) (g_now : Nat → Int32) (g_before : Nat → Int32) (v_undoMany : Int32) (v_before : Nat → Int32) (hf : fX8_note g_undoMany g_now g_before = some ((v_undoMany, v_before))) : CtV l yX8_note wsX8_note rmX8_note D (tyz cI cL cC cZ) [.ref a_this] [(a_this, .inr (8, [.int g_length, .ref a_text, .ref a_now, .ref a_before, .int g_undoMany, .ref a_read, .int g_spot, .ref a_first, .ref a_second, .ref a_sums, .ref a_other, .int g_step, .int g_coverMany, .ref a_grid, .ref a_order, .int g_leastSums, .int g_leastPart])), (a_now, .inl (cZ, 164, .inl g_now)), (a_before, .inl (cZ, 984, .inl g_before))] [(a_this, .inr (8, [.int g_length, .ref a_text, .ref a_now, .ref a_before, .int v_undoMany, .ref a_read, .int g_spot, .ref a_first, .ref a_second, .ref a_sums, .ref a_other, .int g_step, .int g_coverMany, .ref a_grid, .ref a_order, .int g_leastSums, .int g_leastPart])), (a_now, .inl (cZ, 164, .inl g_now)), (a_before, .inl (cZ, 984, .inl v_before))] := by
  refine CtV.make (cc := cX8_note) (maxL := 2) (by decide) rfl (Nat.le_of_ble_eq_true rfl) ?_
  intro p e s m below meth c A ls C0 hN hA hP hD hl
  obtain ⟨hx, hb, hr, hml, hown, hts, hlk⟩ := id C0
  have hown : s.vm.findClass RX8 = some m.cls := hown
  have hS : va_S A s.heap s.heap [] := va_S.rf
  have hP : va_P D vwCl [(a_this, .inr (8, [.int g_length, .ref a_text, .ref a_now, .ref a_before, .int g_undoMany, .ref a_read, .int g_spot, .ref a_first, .ref a_second, .ref a_sums, .ref a_other, .int g_step, .int g_coverMany, .ref a_grid, .ref a_order, .int g_leastSums, .int g_leastPart])), (a_now, .inl (cZ, 164, .inl g_now)), (a_before, .inl (cZ, 984, .inl g_before))] s.heap := hP
  have hD : va_D A [(a_this, .inr (8, [.int g_length, .ref a_text, .ref a_now, .ref a_before, .int g_undoMany, .ref a_read, .int g_spot, .ref a_first, .ref a_second, .ref a_sums, .ref a_other, .int g_step, .int g_coverMany, .ref a_grid, .ref a_order, .int g_leastSums, .int g_leastPart])), (a_now, .inl (cZ, 164, .inl g_now)), (a_before, .inl (cZ, 984, .inl g_before))] := hD
  have hl : lv_has ls 2 [(0, .ref a_this)] := hl
  have z1 : ∀ w ∈ u_ws RX8 TX8 17, w ∈ wsX8_note := by decide +kernel
  have z2 := hts (.fieldLink RX8 81 "LittleSumsModel" "undoMany" "I") (by decide +kernel)
  have z3 := hts (.fieldLink RX8 17 "LittleSumsModel" "before" "[Z") (by decide +kernel)
  have z4 := hts (.fieldLink RX8 13 "LittleSumsModel" "now" "[Z") (by decide +kernel)
  have w52 : ∀ (g_undoMany : Int32) (g_now : Nat → Int32) (x1 : Int32) (g_before : Nat → Int32) (t : Int32 × (Nat → Int32)) (H : Heap) (locs : List Loc) (ls : Array Slot), run (sX8_note_52 g_undoMany g_now) ((x1, g_before)) = some t → (fun z => z = (v_undoMany, v_before)) t → va_P D vwCl [(a_this, .inr (8, [.int g_length, .ref a_text, .ref a_now, .ref a_before, .int g_undoMany, .ref a_read, .int g_spot, .ref a_first, .ref a_second, .ref a_sums, .ref a_other, .int g_step, .int g_coverMany, .ref a_grid, .ref a_order, .int g_leastSums, .int g_leastPart])), (a_now, .inl (cZ, 164, .inl g_now)), (a_before, .inl (cZ, 984, .inl g_before))] H → va_D A [(a_this, .inr (8, [.int g_length, .ref a_text, .ref a_now, .ref a_before, .int g_undoMany, .ref a_read, .int g_spot, .ref a_first, .ref a_second, .ref a_sums, .ref a_other, .int g_step, .int g_coverMany, .ref a_grid, .ref a_order, .int g_leastSums, .int g_leastPart])), (a_now, .inl (cZ, 164, .inl g_now)), (a_before, .inl (cZ, 984, .inl g_before))] → va_S A s.heap H locs → lv_has ls 2 [(0, .ref a_this), (1, .int x1)] → W p l e rmX8_note s m ([.ref a_this] : List Value).toArray below meth c H locs 0 0 (MQ below (cQv D A [(a_this, .inr (8, [.int g_length, .ref a_text, .ref a_now, .ref a_before, .int v_undoMany, .ref a_read, .int g_spot, .ref a_first, .ref a_second, .ref a_sums, .ref a_other, .int g_step, .int g_coverMany, .ref a_grid, .ref a_order, .int g_leastSums, .int g_leastPart])), (a_now, .inl (cZ, 164, .inl g_now)), (a_before, .inl (cZ, 984, .inl v_before))]) ([.ref a_this] : List Value).toArray s 0 0 A) (F0 m 52 ls []) := by
    intro g_undoMany g_now
    obtain ⟨F52, eF52⟩ : ∃ F : (Int32 × (Nat → Int32)) → Prop, F = fun q => ∀ (H : Heap) (locs : List Loc) (ls : Array Slot), va_P D vwCl [(a_this, .inr (8, [.int g_length, .ref a_text, .ref a_now, .ref a_before, .int g_undoMany, .ref a_read, .int g_spot, .ref a_first, .ref a_second, .ref a_sums, .ref a_other, .int g_step, .int g_coverMany, .ref a_grid, .ref a_order, .int g_leastSums, .int g_leastPart])), (a_now, .inl (cZ, 164, .inl g_now)), (a_before, .inl (cZ, 984, .inl q.2))] H → va_D A [(a_this, .inr (8, [.int g_length, .ref a_text, .ref a_now, .ref a_before, .int g_undoMany, .ref a_read, .int g_spot, .ref a_first, .ref a_second, .ref a_sums, .ref a_other, .int g_step, .int g_coverMany, .ref a_grid, .ref a_order, .int g_leastSums, .int g_leastPart])), (a_now, .inl (cZ, 164, .inl g_now)), (a_before, .inl (cZ, 984, .inl q.2))] → va_S A s.heap H locs → lv_has ls 2 [(0, .ref a_this), (1, .int q.1)] → W p l e rmX8_note s m ([.ref a_this] : List Value).toArray below meth c H locs 0 0 (MQ below (cQv D A [(a_this, .inr (8, [.int g_length, .ref a_text, .ref a_now, .ref a_before, .int v_undoMany, .ref a_read, .int g_spot, .ref a_first, .ref a_second, .ref a_sums, .ref a_other, .int g_step, .int g_coverMany, .ref a_grid, .ref a_order, .int g_leastSums, .int g_leastPart])), (a_now, .inl (cZ, 164, .inl g_now)), (a_before, .inl (cZ, 984, .inl v_before))]) ([.ref a_this] : List Value).toArray s 0 0 A) (F0 m 52 ls []) := ⟨_, rfl⟩
    have key : ∀ (q : Int32 × (Nat → Int32)) (t : Int32 × (Nat → Int32)), run (sX8_note_52 g_undoMany g_now) q = some t → (fun z => z = (v_undoMany, v_before)) t → F52 q := by
      refine loop_rule (sX8_note_52 g_undoMany g_now) F52 (fun z => z = (v_undoMany, v_before)) ?_
      intro q t hf hF
      have hF : (Sum.elim F52 (fun z => z = (v_undoMany, v_before))) t := hF
      rw [eF52]
      obtain ⟨x1, g_before⟩ := q
      intro H locs ls hP hD hS hl
      have hP : va_P D vwCl [(a_this, .inr (8, [.int g_length, .ref a_text, .ref a_now, .ref a_before, .int g_undoMany, .ref a_read, .int g_spot, .ref a_first, .ref a_second, .ref a_sums, .ref a_other, .int g_step, .int g_coverMany, .ref a_grid, .ref a_order, .int g_leastSums, .int g_leastPart])), (a_now, .inl (cZ, 164, .inl g_now)), (a_before, .inl (cZ, 984, .inl g_before))] H := hP
      have hD : va_D A [(a_this, .inr (8, [.int g_length, .ref a_text, .ref a_now, .ref a_before, .int g_undoMany, .ref a_read, .int g_spot, .ref a_first, .ref a_second, .ref a_sums, .ref a_other, .int g_step, .int g_coverMany, .ref a_grid, .ref a_order, .int g_leastSums, .int g_leastPart])), (a_now, .inl (cZ, 164, .inl g_now)), (a_before, .inl (cZ, 984, .inl g_before))] := hD
      have hl : lv_has ls 2 [(0, .ref a_this), (1, .int x1)] := hl
      have hf : bX8_note_52 g_undoMany g_now x1 g_before = some t := hf
      unfold bX8_note_52 at hf
      refine lv_iload_n hx hb dX8_note_52 rfl (lv_at hl 1 rfl) ?_
      refine lv_sipush (v := 164) hx hb dX8_note_53 (by decide) ?_
      refine lv_icmp_ge (tgt := 86) hx hb dX8_note_56 (by decide) (fun c1 => ?_) (fun c1 => ?_)
      · have hf := br_pos c1 hf
        refine lv_aload_n hx hb dX8_note_86 rfl (lv_at hl 0 rfl) ?_
        refine lv_dup hx hb dX8_note_87 rfl ?_
        refine va_get (D := D) (ci := 8) (v := .int g_undoMany) (C := RX8) (T := TX8) (N := 17) hx hb hts z1 hown hN.1 hP 0 rfl rfl 4 (by decide) z2 (fun _ h9 => h9) rfl dX8_note_88 ?_
        refine lv_iconst (v := 1) hx hb dX8_note_91 (by decide) ?_
        refine lv_iadd hx hb dX8_note_92 ?_
        refine lv_topi (fun y2 ey2 => ?_)
        have hf := lt_some hf y2 ey2
        refine va_put (D := D) (ci := 8) (v := .int y2) (ty := .int) (C := RX8) (T := TX8) (N := 17) hx hb hts z1 tyX8 tyX8_ok nmX8 hown hN.1 hP hD hS 0 rfl rfl 4 (by decide) z2 (fun _ h9 => h9) rfl (by decide +kernel) rfl rfl (Nat.le_of_ble_eq_true rfl) dX8_note_93 (fun H locs hP hD hS => ?_)
        have hP : va_P D vwCl [(a_this, .inr (8, [.int g_length, .ref a_text, .ref a_now, .ref a_before, .int y2, .ref a_read, .int g_spot, .ref a_first, .ref a_second, .ref a_sums, .ref a_other, .int g_step, .int g_coverMany, .ref a_grid, .ref a_order, .int g_leastSums, .int g_leastPart])), (a_now, .inl (cZ, 164, .inl g_now)), (a_before, .inl (cZ, 984, .inl g_before))] H := hP
        have hD : va_D A [(a_this, .inr (8, [.int g_length, .ref a_text, .ref a_now, .ref a_before, .int y2, .ref a_read, .int g_spot, .ref a_first, .ref a_second, .ref a_sums, .ref a_other, .int g_step, .int g_coverMany, .ref a_grid, .ref a_order, .int g_leastSums, .int g_leastPart])), (a_now, .inl (cZ, 164, .inl g_now)), (a_before, .inl (cZ, 984, .inl g_before))] := hD
        cases hf
        have hE : (y2, g_before) = (v_undoMany, v_before) := hF
        simp only [Prod.mk.injEq] at hE
        obtain ⟨rfl, rfl⟩ := hE
        exact rtV hx hb hr hlk hP hD hS dX8_note_96
      · have hf := br_neg c1 hf
        refine lv_aload_n hx hb dX8_note_59 rfl (lv_at hl 0 rfl) ?_
        refine va_get (D := D) (ci := 8) (v := .ref a_before) (C := RX8) (T := TX8) (N := 17) hx hb hts z1 hown hN.1 hP 0 rfl rfl 3 (by decide) z3 (fun _ h9 => h9) rfl dX8_note_60 ?_
        refine lv_sipush (v := 164) hx hb dX8_note_63 (by decide) ?_
        refine lv_aload_n hx hb dX8_note_66 rfl (lv_at hl 0 rfl) ?_
        refine va_get (D := D) (ci := 8) (v := .int g_undoMany) (C := RX8) (T := TX8) (N := 17) hx hb hts z1 hown hN.1 hP 0 rfl rfl 4 (by decide) z2 (fun _ h9 => h9) rfl dX8_note_67 ?_
        refine lv_imul hx hb dX8_note_70 ?_
        refine lv_iload_n hx hb dX8_note_71 rfl (lv_at hl 1 rfl) ?_
        refine lv_iadd hx hb dX8_note_72 ?_
        refine lv_aload_n hx hb dX8_note_73 rfl (lv_at hl 0 rfl) ?_
        refine va_get (D := D) (ci := 8) (v := .ref a_now) (C := RX8) (T := TX8) (N := 17) hx hb hts z1 hown hN.1 hP 0 rfl rfl 2 (by decide) z4 (fun _ h9 => h9) rfl dX8_note_74 ?_
        refine lv_iload_n hx hb dX8_note_77 rfl (lv_at hl 1 rfl) ?_
        obtain ⟨c3, hf⟩ := gd_some hf
        refine va_zald hx hb hN.1 hP 1 3 rfl rfl (ix_in c3) dX8_note_78 ?_
        refine lv_topi (fun y4 ey4 => ?_)
        have hf := lt_some hf y4 ey4
        obtain ⟨c5, hf⟩ := gd_some hf
        refine va_zast hx hb hN.1 hP hD hS 2 3 rfl rfl (ix_in c5) dX8_note_79 (fun H locs hP hD hS => ?_)
        obtain ⟨y6, ey6⟩ : ∃ z, z = upd g_before (((164 : Int32) * g_undoMany) + x1).toNatClampNeg (vp_nar .boolean y4) := ⟨_, rfl⟩
        have hf := lt_some hf y6 ey6
        have hP : va_P D vwCl [(a_this, .inr (8, [.int g_length, .ref a_text, .ref a_now, .ref a_before, .int g_undoMany, .ref a_read, .int g_spot, .ref a_first, .ref a_second, .ref a_sums, .ref a_other, .int g_step, .int g_coverMany, .ref a_grid, .ref a_order, .int g_leastSums, .int g_leastPart])), (a_now, .inl (cZ, 164, .inl g_now)), (a_before, .inl (cZ, 984, .inl y6))] H := by rw [ey6]; exact hP
        have hD : va_D A [(a_this, .inr (8, [.int g_length, .ref a_text, .ref a_now, .ref a_before, .int g_undoMany, .ref a_read, .int g_spot, .ref a_first, .ref a_second, .ref a_sums, .ref a_other, .int g_step, .int g_coverMany, .ref a_grid, .ref a_order, .int g_leastSums, .int g_leastPart])), (a_now, .inl (cZ, 164, .inl g_now)), (a_before, .inl (cZ, 984, .inl y6))] := by rw [ey6]; exact hD
        obtain ⟨y7, ey7⟩ : ∃ z : Int32, z = x1 + (1 : Int32) := ⟨_, rfl⟩
        have hf := lt_some hf y7 ey7
        refine lv_iinc (v := y7) (lv' := [(1, .int y7), (0, .ref a_this)]) hx hb dX8_note_80 hl (k := 1) rfl (by rw [ey7]; rfl) (by decide) rfl (fun ls hl => ?_)
        refine lv_goto (tgt := 52) hx hb dX8_note_83 (by decide) ?_
        cases hf
        exact ((congrFun eF52 _).mp hF) H locs ls hP hD hS (lv_sub hl [1, 0] rfl)
    intro x1 g_before t H locs ls hf hF hP hD hS hl
    exact ((congrFun eF52 _).mp (key ((x1, g_before)) t hf hF)) H locs ls hP hD hS hl
  have w50 : ∀ (g_undoMany : Int32) (g_now : Nat → Int32) (g_before : Nat → Int32) (H : Heap) (locs : List Loc) (ls : Array Slot), bX8_note_50 g_undoMany g_now g_before = some ((v_undoMany, v_before)) → va_P D vwCl [(a_this, .inr (8, [.int g_length, .ref a_text, .ref a_now, .ref a_before, .int g_undoMany, .ref a_read, .int g_spot, .ref a_first, .ref a_second, .ref a_sums, .ref a_other, .int g_step, .int g_coverMany, .ref a_grid, .ref a_order, .int g_leastSums, .int g_leastPart])), (a_now, .inl (cZ, 164, .inl g_now)), (a_before, .inl (cZ, 984, .inl g_before))] H → va_D A [(a_this, .inr (8, [.int g_length, .ref a_text, .ref a_now, .ref a_before, .int g_undoMany, .ref a_read, .int g_spot, .ref a_first, .ref a_second, .ref a_sums, .ref a_other, .int g_step, .int g_coverMany, .ref a_grid, .ref a_order, .int g_leastSums, .int g_leastPart])), (a_now, .inl (cZ, 164, .inl g_now)), (a_before, .inl (cZ, 984, .inl g_before))] → va_S A s.heap H locs → lv_has ls 2 [(0, .ref a_this)] → W p l e rmX8_note s m ([.ref a_this] : List Value).toArray below meth c H locs 0 0 (MQ below (cQv D A [(a_this, .inr (8, [.int g_length, .ref a_text, .ref a_now, .ref a_before, .int v_undoMany, .ref a_read, .int g_spot, .ref a_first, .ref a_second, .ref a_sums, .ref a_other, .int g_step, .int g_coverMany, .ref a_grid, .ref a_order, .int g_leastSums, .int g_leastPart])), (a_now, .inl (cZ, 164, .inl g_now)), (a_before, .inl (cZ, 984, .inl v_before))]) ([.ref a_this] : List Value).toArray s 0 0 A) (F0 m 50 ls []) := by
    intro g_undoMany g_now g_before H locs ls hf hP hD hS hl
    unfold bX8_note_50 at hf
    refine lv_iconst (v := 0) hx hb dX8_note_50 (by decide) ?_
    refine lv_istore_n (lv' := [(1, .int (0 : Int32)), (0, .ref a_this)]) hx hb dX8_note_51 rfl hl (by decide) rfl (fun ls hl => ?_)
    exact w52 g_undoMany g_now (0 : Int32) g_before (v_undoMany, v_before) H locs ls hf rfl hP hD hS (lv_sub hl [1, 0] rfl)
  have w11 : ∀ (g_undoMany : Int32) (g_now : Nat → Int32) (x1 : Int32) (g_before : Nat → Int32) (t : Int32 × (Nat → Int32)) (H : Heap) (locs : List Loc) (ls : Array Slot), run (sX8_note_11 g_undoMany g_now) ((x1, g_before)) = some t → (fun z => z = (v_undoMany, v_before)) t → va_P D vwCl [(a_this, .inr (8, [.int g_length, .ref a_text, .ref a_now, .ref a_before, .int g_undoMany, .ref a_read, .int g_spot, .ref a_first, .ref a_second, .ref a_sums, .ref a_other, .int g_step, .int g_coverMany, .ref a_grid, .ref a_order, .int g_leastSums, .int g_leastPart])), (a_now, .inl (cZ, 164, .inl g_now)), (a_before, .inl (cZ, 984, .inl g_before))] H → va_D A [(a_this, .inr (8, [.int g_length, .ref a_text, .ref a_now, .ref a_before, .int g_undoMany, .ref a_read, .int g_spot, .ref a_first, .ref a_second, .ref a_sums, .ref a_other, .int g_step, .int g_coverMany, .ref a_grid, .ref a_order, .int g_leastSums, .int g_leastPart])), (a_now, .inl (cZ, 164, .inl g_now)), (a_before, .inl (cZ, 984, .inl g_before))] → va_S A s.heap H locs → lv_has ls 2 [(0, .ref a_this), (1, .int x1)] → W p l e rmX8_note s m ([.ref a_this] : List Value).toArray below meth c H locs 0 0 (MQ below (cQv D A [(a_this, .inr (8, [.int g_length, .ref a_text, .ref a_now, .ref a_before, .int v_undoMany, .ref a_read, .int g_spot, .ref a_first, .ref a_second, .ref a_sums, .ref a_other, .int g_step, .int g_coverMany, .ref a_grid, .ref a_order, .int g_leastSums, .int g_leastPart])), (a_now, .inl (cZ, 164, .inl g_now)), (a_before, .inl (cZ, 984, .inl v_before))]) ([.ref a_this] : List Value).toArray s 0 0 A) (F0 m 11 ls []) := by
    intro g_undoMany g_now
    obtain ⟨F11, eF11⟩ : ∃ F : (Int32 × (Nat → Int32)) → Prop, F = fun q => ∀ (H : Heap) (locs : List Loc) (ls : Array Slot), va_P D vwCl [(a_this, .inr (8, [.int g_length, .ref a_text, .ref a_now, .ref a_before, .int g_undoMany, .ref a_read, .int g_spot, .ref a_first, .ref a_second, .ref a_sums, .ref a_other, .int g_step, .int g_coverMany, .ref a_grid, .ref a_order, .int g_leastSums, .int g_leastPart])), (a_now, .inl (cZ, 164, .inl g_now)), (a_before, .inl (cZ, 984, .inl q.2))] H → va_D A [(a_this, .inr (8, [.int g_length, .ref a_text, .ref a_now, .ref a_before, .int g_undoMany, .ref a_read, .int g_spot, .ref a_first, .ref a_second, .ref a_sums, .ref a_other, .int g_step, .int g_coverMany, .ref a_grid, .ref a_order, .int g_leastSums, .int g_leastPart])), (a_now, .inl (cZ, 164, .inl g_now)), (a_before, .inl (cZ, 984, .inl q.2))] → va_S A s.heap H locs → lv_has ls 2 [(0, .ref a_this), (1, .int q.1)] → W p l e rmX8_note s m ([.ref a_this] : List Value).toArray below meth c H locs 0 0 (MQ below (cQv D A [(a_this, .inr (8, [.int g_length, .ref a_text, .ref a_now, .ref a_before, .int v_undoMany, .ref a_read, .int g_spot, .ref a_first, .ref a_second, .ref a_sums, .ref a_other, .int g_step, .int g_coverMany, .ref a_grid, .ref a_order, .int g_leastSums, .int g_leastPart])), (a_now, .inl (cZ, 164, .inl g_now)), (a_before, .inl (cZ, 984, .inl v_before))]) ([.ref a_this] : List Value).toArray s 0 0 A) (F0 m 11 ls []) := ⟨_, rfl⟩
    have key : ∀ (q : Int32 × (Nat → Int32)) (t : Int32 × (Nat → Int32)), run (sX8_note_11 g_undoMany g_now) q = some t → (fun z => z = (v_undoMany, v_before)) t → F11 q := by
      refine loop_rule (sX8_note_11 g_undoMany g_now) F11 (fun z => z = (v_undoMany, v_before)) ?_
      intro q t hf hF
      have hF : (Sum.elim F11 (fun z => z = (v_undoMany, v_before))) t := hF
      rw [eF11]
      obtain ⟨x1, g_before⟩ := q
      intro H locs ls hP hD hS hl
      have hP : va_P D vwCl [(a_this, .inr (8, [.int g_length, .ref a_text, .ref a_now, .ref a_before, .int g_undoMany, .ref a_read, .int g_spot, .ref a_first, .ref a_second, .ref a_sums, .ref a_other, .int g_step, .int g_coverMany, .ref a_grid, .ref a_order, .int g_leastSums, .int g_leastPart])), (a_now, .inl (cZ, 164, .inl g_now)), (a_before, .inl (cZ, 984, .inl g_before))] H := hP
      have hD : va_D A [(a_this, .inr (8, [.int g_length, .ref a_text, .ref a_now, .ref a_before, .int g_undoMany, .ref a_read, .int g_spot, .ref a_first, .ref a_second, .ref a_sums, .ref a_other, .int g_step, .int g_coverMany, .ref a_grid, .ref a_order, .int g_leastSums, .int g_leastPart])), (a_now, .inl (cZ, 164, .inl g_now)), (a_before, .inl (cZ, 984, .inl g_before))] := hD
      have hl : lv_has ls 2 [(0, .ref a_this), (1, .int x1)] := hl
      have hf : bX8_note_11 g_undoMany g_now x1 g_before = some t := hf
      unfold bX8_note_11 at hf
      refine lv_iload_n hx hb dX8_note_11 rfl (lv_at hl 1 rfl) ?_
      refine lv_sipush (v := 820) hx hb dX8_note_12 (by decide) ?_
      refine lv_icmp_ge (tgt := 40) hx hb dX8_note_15 (by decide) (fun c8 => ?_) (fun c8 => ?_)
      · have hf := br_pos c8 hf
        refine lv_aload_n hx hb dX8_note_40 rfl (lv_at hl 0 rfl) ?_
        refine lv_dup hx hb dX8_note_41 rfl ?_
        refine va_get (D := D) (ci := 8) (v := .int g_undoMany) (C := RX8) (T := TX8) (N := 17) hx hb hts z1 hown hN.1 hP 0 rfl rfl 4 (by decide) z2 (fun _ h9 => h9) rfl dX8_note_42 ?_
        refine lv_iconst (v := 1) hx hb dX8_note_45 (by decide) ?_
        refine lv_isub hx hb dX8_note_46 ?_
        refine lv_topi (fun y9 ey9 => ?_)
        have hf := lt_some hf y9 ey9
        refine va_put (D := D) (ci := 8) (v := .int y9) (ty := .int) (C := RX8) (T := TX8) (N := 17) hx hb hts z1 tyX8 tyX8_ok nmX8 hown hN.1 hP hD hS 0 rfl rfl 4 (by decide) z2 (fun _ h9 => h9) rfl (by decide +kernel) rfl rfl (Nat.le_of_ble_eq_true rfl) dX8_note_47 (fun H locs hP hD hS => ?_)
        have hP : va_P D vwCl [(a_this, .inr (8, [.int g_length, .ref a_text, .ref a_now, .ref a_before, .int y9, .ref a_read, .int g_spot, .ref a_first, .ref a_second, .ref a_sums, .ref a_other, .int g_step, .int g_coverMany, .ref a_grid, .ref a_order, .int g_leastSums, .int g_leastPart])), (a_now, .inl (cZ, 164, .inl g_now)), (a_before, .inl (cZ, 984, .inl g_before))] H := hP
        have hD : va_D A [(a_this, .inr (8, [.int g_length, .ref a_text, .ref a_now, .ref a_before, .int y9, .ref a_read, .int g_spot, .ref a_first, .ref a_second, .ref a_sums, .ref a_other, .int g_step, .int g_coverMany, .ref a_grid, .ref a_order, .int g_leastSums, .int g_leastPart])), (a_now, .inl (cZ, 164, .inl g_now)), (a_before, .inl (cZ, 984, .inl g_before))] := hD
        obtain ⟨t10, hf, hF⟩ := ml_fin hf hF
        have hF : t10 = (v_undoMany, v_before) := hF
        rw [hF] at hf
        exact w50 y9 g_now g_before H locs ls hf hP hD hS (lv_sub hl [0] rfl)
      · have hf := br_neg c8 hf
        refine lv_aload_n hx hb dX8_note_18 rfl (lv_at hl 0 rfl) ?_
        refine va_get (D := D) (ci := 8) (v := .ref a_before) (C := RX8) (T := TX8) (N := 17) hx hb hts z1 hown hN.1 hP 0 rfl rfl 3 (by decide) z3 (fun _ h9 => h9) rfl dX8_note_19 ?_
        refine lv_iload_n hx hb dX8_note_22 rfl (lv_at hl 1 rfl) ?_
        refine lv_aload_n hx hb dX8_note_23 rfl (lv_at hl 0 rfl) ?_
        refine va_get (D := D) (ci := 8) (v := .ref a_before) (C := RX8) (T := TX8) (N := 17) hx hb hts z1 hown hN.1 hP 0 rfl rfl 3 (by decide) z3 (fun _ h9 => h9) rfl dX8_note_24 ?_
        refine lv_sipush (v := 164) hx hb dX8_note_27 (by decide) ?_
        refine lv_iload_n hx hb dX8_note_30 rfl (lv_at hl 1 rfl) ?_
        refine lv_iadd hx hb dX8_note_31 ?_
        obtain ⟨c11, hf⟩ := gd_some hf
        refine va_zald hx hb hN.1 hP 2 3 rfl rfl (ix_in c11) dX8_note_32 ?_
        refine lv_topi (fun y12 ey12 => ?_)
        have hf := lt_some hf y12 ey12
        obtain ⟨c13, hf⟩ := gd_some hf
        refine va_zast hx hb hN.1 hP hD hS 2 3 rfl rfl (ix_in c13) dX8_note_33 (fun H locs hP hD hS => ?_)
        obtain ⟨y14, ey14⟩ : ∃ z, z = upd g_before x1.toNatClampNeg (vp_nar .boolean y12) := ⟨_, rfl⟩
        have hf := lt_some hf y14 ey14
        have hP : va_P D vwCl [(a_this, .inr (8, [.int g_length, .ref a_text, .ref a_now, .ref a_before, .int g_undoMany, .ref a_read, .int g_spot, .ref a_first, .ref a_second, .ref a_sums, .ref a_other, .int g_step, .int g_coverMany, .ref a_grid, .ref a_order, .int g_leastSums, .int g_leastPart])), (a_now, .inl (cZ, 164, .inl g_now)), (a_before, .inl (cZ, 984, .inl y14))] H := by rw [ey14]; exact hP
        have hD : va_D A [(a_this, .inr (8, [.int g_length, .ref a_text, .ref a_now, .ref a_before, .int g_undoMany, .ref a_read, .int g_spot, .ref a_first, .ref a_second, .ref a_sums, .ref a_other, .int g_step, .int g_coverMany, .ref a_grid, .ref a_order, .int g_leastSums, .int g_leastPart])), (a_now, .inl (cZ, 164, .inl g_now)), (a_before, .inl (cZ, 984, .inl y14))] := by rw [ey14]; exact hD
        obtain ⟨y15, ey15⟩ : ∃ z : Int32, z = x1 + (1 : Int32) := ⟨_, rfl⟩
        have hf := lt_some hf y15 ey15
        refine lv_iinc (v := y15) (lv' := [(1, .int y15), (0, .ref a_this)]) hx hb dX8_note_34 hl (k := 1) rfl (by rw [ey15]; rfl) (by decide) rfl (fun ls hl => ?_)
        refine lv_goto (tgt := 11) hx hb dX8_note_37 (by decide) ?_
        cases hf
        exact ((congrFun eF11 _).mp hF) H locs ls hP hD hS (lv_sub hl [1, 0] rfl)
    intro x1 g_before t H locs ls hf hF hP hD hS hl
    exact ((congrFun eF11 _).mp (key ((x1, g_before)) t hf hF)) H locs ls hP hD hS hl
  unfold fX8_note at hf
  obtain ⟨H, eH⟩ : ∃ z, z = s.heap := ⟨_, rfl⟩
  obtain ⟨locs, eL⟩ : ∃ z : List Loc, z = [] := ⟨_, rfl⟩
  have hP : va_P D vwCl [(a_this, .inr (8, [.int g_length, .ref a_text, .ref a_now, .ref a_before, .int g_undoMany, .ref a_read, .int g_spot, .ref a_first, .ref a_second, .ref a_sums, .ref a_other, .int g_step, .int g_coverMany, .ref a_grid, .ref a_order, .int g_leastSums, .int g_leastPart])), (a_now, .inl (cZ, 164, .inl g_now)), (a_before, .inl (cZ, 984, .inl g_before))] H := by rw [eH]; exact hP
  have hS : va_S A s.heap H locs := by rw [eH, eL]; exact hS
  suffices hG : W p l e rmX8_note s m ([.ref a_this] : List Value).toArray below meth c H locs 0 0 (MQ below (cQv D A [(a_this, .inr (8, [.int g_length, .ref a_text, .ref a_now, .ref a_before, .int v_undoMany, .ref a_read, .int g_spot, .ref a_first, .ref a_second, .ref a_sums, .ref a_other, .int g_step, .int g_coverMany, .ref a_grid, .ref a_order, .int g_leastSums, .int g_leastPart])), (a_now, .inl (cZ, 164, .inl g_now)), (a_before, .inl (cZ, 984, .inl v_before))]) ([.ref a_this] : List Value).toArray s 0 0 A) (F0 m 0 ls []) by rw [eH, eL] at hG; exact hG
  refine lv_aload_n hx hb dX8_note_0 rfl (lv_at hl 0 rfl) ?_
  refine va_get (D := D) (ci := 8) (v := .int g_undoMany) (C := RX8) (T := TX8) (N := 17) hx hb hts z1 hown hN.1 hP 0 rfl rfl 4 (by decide) z2 (fun _ h9 => h9) rfl dX8_note_1 ?_
  refine lv_bipush (v := 6) hx hb dX8_note_4 (by decide) ?_
  refine lv_icmp_ne (tgt := 50) hx hb dX8_note_6 (by decide) (fun c16 => ?_) (fun c16 => ?_)
  · have hf := br_neg c16 hf
    exact w50 g_undoMany g_now g_before H locs ls hf hP hD hS (lv_sub hl [0] rfl)
  · have hf := br_pos c16 hf
    refine lv_iconst (v := 0) hx hb dX8_note_9 (by decide) ?_
    refine lv_istore_n (lv' := [(1, .int (0 : Int32)), (0, .ref a_this)]) hx hb dX8_note_10 rfl hl (by decide) rfl (fun ls hl => ?_)
    exact w11 g_undoMany g_now (0 : Int32) g_before (v_undoMany, v_before) H locs ls hf rfl hP hD hS (lv_sub hl [1, 0] rfl)
abbrev rmX8_undo : Room := { frames := 0, cells := 0, slots := 0, locals := 0 }
noncomputable def bX8_undo_22 (g_undoMany : Int32) (g_before : Nat → Int32) (x1 : Int32) (g_now : Nat → Int32) : Option ((Int32 × (Nat → Int32)) ⊕ (Int32 × Int32 × (Nat → Int32))) := br ((164 : Int32) ≤ x1) (some (Sum.inr ((g_undoMany, g_undoMany, g_now)))) (gd (¬ (((164 : Int32) * g_undoMany) + x1) < 0 ∧ (((164 : Int32) * g_undoMany) + x1).toNatClampNeg < 984) (lt_ (g_before (((164 : Int32) * g_undoMany) + x1).toNatClampNeg) (fun y3 => gd (¬ x1 < 0 ∧ x1.toNatClampNeg < 164) (lt_ (upd g_now x1.toNatClampNeg (vp_nar .boolean y3)) (fun y5 => lt_ (x1 + (1 : Int32)) (fun y6 => some (Sum.inl ((y6, y5)))))))))
noncomputable def sX8_undo_22 (g_undoMany : Int32) (g_before : Nat → Int32) : (Int32 × (Nat → Int32)) → Option ((Int32 × (Nat → Int32)) ⊕ (Int32 × Int32 × (Nat → Int32))) := fun q => bX8_undo_22 g_undoMany g_before q.1 q.2
noncomputable def fX8_undo (g_undoMany : Int32) (g_now : Nat → Int32) (g_before : Nat → Int32) : Option (Int32 × Int32 × (Nat → Int32)) := br (g_undoMany = 0) (some (((-2 : Int32), g_undoMany, g_now))) (lt_ (g_undoMany - (1 : Int32)) (fun y8 => run (sX8_undo_22 y8 g_before) (((0 : Int32), g_now))))
set_option maxHeartbeats 4000000 in
set_option maxRecDepth 100000 in
theorem cX8_undo_ct (l : Launch) (D : va_G) (cI cL cC cZ : ClassId) (a_this a_text a_now a_before a_read a_first a_second a_sums a_other a_grid a_order : Nat) (g_length : Int32) (g_undoMany : Int32) (g_spot : Int32) (g_step : Int32) (g_coverMany : Int32) (g_leastSums : Int32) (g_leastPart : Int32) (g_now : Nat → Int32) (g_before : Nat → Int32) (r0 : Int32) (v_undoMany : Int32) (v_now : Nat → Int32) (hf : fX8_undo g_undoMany g_now g_before = some ((r0, v_undoMany, v_now))) : CtI l yX8_undo wsX8_undo rmX8_undo D (tyz cI cL cC cZ) [.ref a_this] [(a_this, .inr (8, [.int g_length, .ref a_text, .ref a_now, .ref a_before, .int g_undoMany, .ref a_read, .int g_spot, .ref a_first, .ref a_second, .ref a_sums, .ref a_other, .int g_step, .int g_coverMany, .ref a_grid, .ref a_order, .int g_leastSums, .int g_leastPart])), (a_now, .inl (cZ, 164, .inl g_now)), (a_before, .inl (cZ, 984, .inl g_before))] [(a_this, .inr (8, [.int g_length, .ref a_text, .ref a_now, .ref a_before, .int v_undoMany, .ref a_read, .int g_spot, .ref a_first, .ref a_second, .ref a_sums, .ref a_other, .int g_step, .int g_coverMany, .ref a_grid, .ref a_order, .int g_leastSums, .int g_leastPart])), (a_now, .inl (cZ, 164, .inl v_now)), (a_before, .inl (cZ, 984, .inl g_before))] r0 := by
  refine CtI.make (cc := cX8_undo) (maxL := 2) (ty := .int) (by decide) rfl (Nat.le_of_ble_eq_true rfl) ?_
  intro p e s m below meth c A ls C0 hN hA hP hD hl
  obtain ⟨hx, hb, hr, hml, hown, hts, hlk⟩ := id C0
  have hown : s.vm.findClass RX8 = some m.cls := hown
  have hS : va_S A s.heap s.heap [] := va_S.rf
  have hP : va_P D vwCl [(a_this, .inr (8, [.int g_length, .ref a_text, .ref a_now, .ref a_before, .int g_undoMany, .ref a_read, .int g_spot, .ref a_first, .ref a_second, .ref a_sums, .ref a_other, .int g_step, .int g_coverMany, .ref a_grid, .ref a_order, .int g_leastSums, .int g_leastPart])), (a_now, .inl (cZ, 164, .inl g_now)), (a_before, .inl (cZ, 984, .inl g_before))] s.heap := hP
  have hD : va_D A [(a_this, .inr (8, [.int g_length, .ref a_text, .ref a_now, .ref a_before, .int g_undoMany, .ref a_read, .int g_spot, .ref a_first, .ref a_second, .ref a_sums, .ref a_other, .int g_step, .int g_coverMany, .ref a_grid, .ref a_order, .int g_leastSums, .int g_leastPart])), (a_now, .inl (cZ, 164, .inl g_now)), (a_before, .inl (cZ, 984, .inl g_before))] := hD
  have hl : lv_has ls 2 [(0, .ref a_this)] := hl
  have z1 : ∀ w ∈ u_ws RX8 TX8 17, w ∈ wsX8_undo := by decide +kernel
  have z2 := hts (.fieldLink RX8 81 "LittleSumsModel" "undoMany" "I") (by decide +kernel)
  have z3 := hts (.fieldLink RX8 13 "LittleSumsModel" "now" "[Z") (by decide +kernel)
  have z4 := hts (.fieldLink RX8 17 "LittleSumsModel" "before" "[Z") (by decide +kernel)
  have w22 : ∀ (g_undoMany : Int32) (g_before : Nat → Int32) (x1 : Int32) (g_now : Nat → Int32) (t : Int32 × Int32 × (Nat → Int32)) (H : Heap) (locs : List Loc) (ls : Array Slot), run (sX8_undo_22 g_undoMany g_before) ((x1, g_now)) = some t → (fun z => z = (r0, v_undoMany, v_now)) t → va_P D vwCl [(a_this, .inr (8, [.int g_length, .ref a_text, .ref a_now, .ref a_before, .int g_undoMany, .ref a_read, .int g_spot, .ref a_first, .ref a_second, .ref a_sums, .ref a_other, .int g_step, .int g_coverMany, .ref a_grid, .ref a_order, .int g_leastSums, .int g_leastPart])), (a_now, .inl (cZ, 164, .inl g_now)), (a_before, .inl (cZ, 984, .inl g_before))] H → va_D A [(a_this, .inr (8, [.int g_length, .ref a_text, .ref a_now, .ref a_before, .int g_undoMany, .ref a_read, .int g_spot, .ref a_first, .ref a_second, .ref a_sums, .ref a_other, .int g_step, .int g_coverMany, .ref a_grid, .ref a_order, .int g_leastSums, .int g_leastPart])), (a_now, .inl (cZ, 164, .inl g_now)), (a_before, .inl (cZ, 984, .inl g_before))] → va_S A s.heap H locs → lv_has ls 2 [(0, .ref a_this), (1, .int x1)] → W p l e rmX8_undo s m ([.ref a_this] : List Value).toArray below meth c H locs 0 0 (MQ below (cQi D r0 A [(a_this, .inr (8, [.int g_length, .ref a_text, .ref a_now, .ref a_before, .int v_undoMany, .ref a_read, .int g_spot, .ref a_first, .ref a_second, .ref a_sums, .ref a_other, .int g_step, .int g_coverMany, .ref a_grid, .ref a_order, .int g_leastSums, .int g_leastPart])), (a_now, .inl (cZ, 164, .inl v_now)), (a_before, .inl (cZ, 984, .inl g_before))]) ([.ref a_this] : List Value).toArray s 0 0 A) (F0 m 22 ls []) := by
    intro g_undoMany g_before
    obtain ⟨F22, eF22⟩ : ∃ F : (Int32 × (Nat → Int32)) → Prop, F = fun q => ∀ (H : Heap) (locs : List Loc) (ls : Array Slot), va_P D vwCl [(a_this, .inr (8, [.int g_length, .ref a_text, .ref a_now, .ref a_before, .int g_undoMany, .ref a_read, .int g_spot, .ref a_first, .ref a_second, .ref a_sums, .ref a_other, .int g_step, .int g_coverMany, .ref a_grid, .ref a_order, .int g_leastSums, .int g_leastPart])), (a_now, .inl (cZ, 164, .inl q.2)), (a_before, .inl (cZ, 984, .inl g_before))] H → va_D A [(a_this, .inr (8, [.int g_length, .ref a_text, .ref a_now, .ref a_before, .int g_undoMany, .ref a_read, .int g_spot, .ref a_first, .ref a_second, .ref a_sums, .ref a_other, .int g_step, .int g_coverMany, .ref a_grid, .ref a_order, .int g_leastSums, .int g_leastPart])), (a_now, .inl (cZ, 164, .inl q.2)), (a_before, .inl (cZ, 984, .inl g_before))] → va_S A s.heap H locs → lv_has ls 2 [(0, .ref a_this), (1, .int q.1)] → W p l e rmX8_undo s m ([.ref a_this] : List Value).toArray below meth c H locs 0 0 (MQ below (cQi D r0 A [(a_this, .inr (8, [.int g_length, .ref a_text, .ref a_now, .ref a_before, .int v_undoMany, .ref a_read, .int g_spot, .ref a_first, .ref a_second, .ref a_sums, .ref a_other, .int g_step, .int g_coverMany, .ref a_grid, .ref a_order, .int g_leastSums, .int g_leastPart])), (a_now, .inl (cZ, 164, .inl v_now)), (a_before, .inl (cZ, 984, .inl g_before))]) ([.ref a_this] : List Value).toArray s 0 0 A) (F0 m 22 ls []) := ⟨_, rfl⟩
    have key : ∀ (q : Int32 × (Nat → Int32)) (t : Int32 × Int32 × (Nat → Int32)), run (sX8_undo_22 g_undoMany g_before) q = some t → (fun z => z = (r0, v_undoMany, v_now)) t → F22 q := by
      refine loop_rule (sX8_undo_22 g_undoMany g_before) F22 (fun z => z = (r0, v_undoMany, v_now)) ?_
      intro q t hf hF
      have hF : (Sum.elim F22 (fun z => z = (r0, v_undoMany, v_now))) t := hF
      rw [eF22]
      obtain ⟨x1, g_now⟩ := q
      intro H locs ls hP hD hS hl
      have hP : va_P D vwCl [(a_this, .inr (8, [.int g_length, .ref a_text, .ref a_now, .ref a_before, .int g_undoMany, .ref a_read, .int g_spot, .ref a_first, .ref a_second, .ref a_sums, .ref a_other, .int g_step, .int g_coverMany, .ref a_grid, .ref a_order, .int g_leastSums, .int g_leastPart])), (a_now, .inl (cZ, 164, .inl g_now)), (a_before, .inl (cZ, 984, .inl g_before))] H := hP
      have hD : va_D A [(a_this, .inr (8, [.int g_length, .ref a_text, .ref a_now, .ref a_before, .int g_undoMany, .ref a_read, .int g_spot, .ref a_first, .ref a_second, .ref a_sums, .ref a_other, .int g_step, .int g_coverMany, .ref a_grid, .ref a_order, .int g_leastSums, .int g_leastPart])), (a_now, .inl (cZ, 164, .inl g_now)), (a_before, .inl (cZ, 984, .inl g_before))] := hD
      have hl : lv_has ls 2 [(0, .ref a_this), (1, .int x1)] := hl
      have hf : bX8_undo_22 g_undoMany g_before x1 g_now = some t := hf
      unfold bX8_undo_22 at hf
      refine lv_iload_n hx hb dX8_undo_22 rfl (lv_at hl 1 rfl) ?_
      refine lv_sipush (v := 164) hx hb dX8_undo_23 (by decide) ?_
      refine lv_icmp_ge (tgt := 56) hx hb dX8_undo_26 (by decide) (fun c1 => ?_) (fun c1 => ?_)
      · have hf := br_pos c1 hf
        refine lv_aload_n hx hb dX8_undo_56 rfl (lv_at hl 0 rfl) ?_
        refine va_get (D := D) (ci := 8) (v := .int g_undoMany) (C := RX8) (T := TX8) (N := 17) hx hb hts z1 hown hN.1 hP 0 rfl rfl 4 (by decide) z2 (fun _ h9 => h9) rfl dX8_undo_57 ?_
        cases hf
        have hE : (g_undoMany, g_undoMany, g_now) = (r0, v_undoMany, v_now) := hF
        simp only [Prod.mk.injEq] at hE
        obtain ⟨rfl, rfl, rfl⟩ := hE
        exact rtI hx hb hr hlk hP hD hS dX8_undo_60
      · have hf := br_neg c1 hf
        refine lv_aload_n hx hb dX8_undo_29 rfl (lv_at hl 0 rfl) ?_
        refine va_get (D := D) (ci := 8) (v := .ref a_now) (C := RX8) (T := TX8) (N := 17) hx hb hts z1 hown hN.1 hP 0 rfl rfl 2 (by decide) z3 (fun _ h9 => h9) rfl dX8_undo_30 ?_
        refine lv_iload_n hx hb dX8_undo_33 rfl (lv_at hl 1 rfl) ?_
        refine lv_aload_n hx hb dX8_undo_34 rfl (lv_at hl 0 rfl) ?_
        refine va_get (D := D) (ci := 8) (v := .ref a_before) (C := RX8) (T := TX8) (N := 17) hx hb hts z1 hown hN.1 hP 0 rfl rfl 3 (by decide) z4 (fun _ h9 => h9) rfl dX8_undo_35 ?_
        refine lv_sipush (v := 164) hx hb dX8_undo_38 (by decide) ?_
        refine lv_aload_n hx hb dX8_undo_41 rfl (lv_at hl 0 rfl) ?_
        refine va_get (D := D) (ci := 8) (v := .int g_undoMany) (C := RX8) (T := TX8) (N := 17) hx hb hts z1 hown hN.1 hP 0 rfl rfl 4 (by decide) z2 (fun _ h9 => h9) rfl dX8_undo_42 ?_
        refine lv_imul hx hb dX8_undo_45 ?_
        refine lv_iload_n hx hb dX8_undo_46 rfl (lv_at hl 1 rfl) ?_
        refine lv_iadd hx hb dX8_undo_47 ?_
        obtain ⟨c2, hf⟩ := gd_some hf
        refine va_zald hx hb hN.1 hP 2 3 rfl rfl (ix_in c2) dX8_undo_48 ?_
        refine lv_topi (fun y3 ey3 => ?_)
        have hf := lt_some hf y3 ey3
        obtain ⟨c4, hf⟩ := gd_some hf
        refine va_zast hx hb hN.1 hP hD hS 1 3 rfl rfl (ix_in c4) dX8_undo_49 (fun H locs hP hD hS => ?_)
        obtain ⟨y5, ey5⟩ : ∃ z, z = upd g_now x1.toNatClampNeg (vp_nar .boolean y3) := ⟨_, rfl⟩
        have hf := lt_some hf y5 ey5
        have hP : va_P D vwCl [(a_this, .inr (8, [.int g_length, .ref a_text, .ref a_now, .ref a_before, .int g_undoMany, .ref a_read, .int g_spot, .ref a_first, .ref a_second, .ref a_sums, .ref a_other, .int g_step, .int g_coverMany, .ref a_grid, .ref a_order, .int g_leastSums, .int g_leastPart])), (a_now, .inl (cZ, 164, .inl y5)), (a_before, .inl (cZ, 984, .inl g_before))] H := by rw [ey5]; exact hP
        have hD : va_D A [(a_this, .inr (8, [.int g_length, .ref a_text, .ref a_now, .ref a_before, .int g_undoMany, .ref a_read, .int g_spot, .ref a_first, .ref a_second, .ref a_sums, .ref a_other, .int g_step, .int g_coverMany, .ref a_grid, .ref a_order, .int g_leastSums, .int g_leastPart])), (a_now, .inl (cZ, 164, .inl y5)), (a_before, .inl (cZ, 984, .inl g_before))] := by rw [ey5]; exact hD
        obtain ⟨y6, ey6⟩ : ∃ z : Int32, z = x1 + (1 : Int32) := ⟨_, rfl⟩
        have hf := lt_some hf y6 ey6
        refine lv_iinc (v := y6) (lv' := [(1, .int y6), (0, .ref a_this)]) hx hb dX8_undo_50 hl (k := 1) rfl (by rw [ey6]; rfl) (by decide) rfl (fun ls hl => ?_)
        refine lv_goto (tgt := 22) hx hb dX8_undo_53 (by decide) ?_
        cases hf
        exact ((congrFun eF22 _).mp hF) H locs ls hP hD hS (lv_sub hl [1, 0] rfl)
    intro x1 g_now t H locs ls hf hF hP hD hS hl
    exact ((congrFun eF22 _).mp (key ((x1, g_now)) t hf hF)) H locs ls hP hD hS hl
  unfold fX8_undo at hf
  obtain ⟨H, eH⟩ : ∃ z, z = s.heap := ⟨_, rfl⟩
  obtain ⟨locs, eL⟩ : ∃ z : List Loc, z = [] := ⟨_, rfl⟩
  have hP : va_P D vwCl [(a_this, .inr (8, [.int g_length, .ref a_text, .ref a_now, .ref a_before, .int g_undoMany, .ref a_read, .int g_spot, .ref a_first, .ref a_second, .ref a_sums, .ref a_other, .int g_step, .int g_coverMany, .ref a_grid, .ref a_order, .int g_leastSums, .int g_leastPart])), (a_now, .inl (cZ, 164, .inl g_now)), (a_before, .inl (cZ, 984, .inl g_before))] H := by rw [eH]; exact hP
  have hS : va_S A s.heap H locs := by rw [eH, eL]; exact hS
  suffices hG : W p l e rmX8_undo s m ([.ref a_this] : List Value).toArray below meth c H locs 0 0 (MQ below (cQi D r0 A [(a_this, .inr (8, [.int g_length, .ref a_text, .ref a_now, .ref a_before, .int v_undoMany, .ref a_read, .int g_spot, .ref a_first, .ref a_second, .ref a_sums, .ref a_other, .int g_step, .int g_coverMany, .ref a_grid, .ref a_order, .int g_leastSums, .int g_leastPart])), (a_now, .inl (cZ, 164, .inl v_now)), (a_before, .inl (cZ, 984, .inl g_before))]) ([.ref a_this] : List Value).toArray s 0 0 A) (F0 m 0 ls []) by rw [eH, eL] at hG; exact hG
  refine lv_aload_n hx hb dX8_undo_0 rfl (lv_at hl 0 rfl) ?_
  refine va_get (D := D) (ci := 8) (v := .int g_undoMany) (C := RX8) (T := TX8) (N := 17) hx hb hts z1 hown hN.1 hP 0 rfl rfl 4 (by decide) z2 (fun _ h9 => h9) rfl dX8_undo_1 ?_
  refine lv_if_ne (tgt := 10) hx hb dX8_undo_4 (by decide) (fun c7 => ?_) (fun c7 => ?_)
  · have hf := br_neg c7 hf
    refine lv_aload_n hx hb dX8_undo_10 rfl (lv_at hl 0 rfl) ?_
    refine lv_dup hx hb dX8_undo_11 rfl ?_
    refine va_get (D := D) (ci := 8) (v := .int g_undoMany) (C := RX8) (T := TX8) (N := 17) hx hb hts z1 hown hN.1 hP 0 rfl rfl 4 (by decide) z2 (fun _ h9 => h9) rfl dX8_undo_12 ?_
    refine lv_iconst (v := 1) hx hb dX8_undo_15 (by decide) ?_
    refine lv_isub hx hb dX8_undo_16 ?_
    refine lv_topi (fun y8 ey8 => ?_)
    have hf := lt_some hf y8 ey8
    refine va_put (D := D) (ci := 8) (v := .int y8) (ty := .int) (C := RX8) (T := TX8) (N := 17) hx hb hts z1 tyX8 tyX8_ok nmX8 hown hN.1 hP hD hS 0 rfl rfl 4 (by decide) z2 (fun _ h9 => h9) rfl (by decide +kernel) rfl rfl (Nat.le_of_ble_eq_true rfl) dX8_undo_17 (fun H locs hP hD hS => ?_)
    have hP : va_P D vwCl [(a_this, .inr (8, [.int g_length, .ref a_text, .ref a_now, .ref a_before, .int y8, .ref a_read, .int g_spot, .ref a_first, .ref a_second, .ref a_sums, .ref a_other, .int g_step, .int g_coverMany, .ref a_grid, .ref a_order, .int g_leastSums, .int g_leastPart])), (a_now, .inl (cZ, 164, .inl g_now)), (a_before, .inl (cZ, 984, .inl g_before))] H := hP
    have hD : va_D A [(a_this, .inr (8, [.int g_length, .ref a_text, .ref a_now, .ref a_before, .int y8, .ref a_read, .int g_spot, .ref a_first, .ref a_second, .ref a_sums, .ref a_other, .int g_step, .int g_coverMany, .ref a_grid, .ref a_order, .int g_leastSums, .int g_leastPart])), (a_now, .inl (cZ, 164, .inl g_now)), (a_before, .inl (cZ, 984, .inl g_before))] := hD
    refine lv_iconst (v := 0) hx hb dX8_undo_20 (by decide) ?_
    refine lv_istore_n (lv' := [(1, .int (0 : Int32)), (0, .ref a_this)]) hx hb dX8_undo_21 rfl hl (by decide) rfl (fun ls hl => ?_)
    exact w22 y8 g_before (0 : Int32) g_now (r0, v_undoMany, v_now) H locs ls hf rfl hP hD hS (lv_sub hl [1, 0] rfl)
  · have hf := br_pos c7 hf
    refine lv_bipush (v := -2) hx hb dX8_undo_7 (by decide) ?_
    have hE : ((-2 : Int32), g_undoMany, g_now) = (r0, v_undoMany, v_now) := Option.some.inj hf
    simp only [Prod.mk.injEq] at hE
    obtain ⟨rfl, rfl, rfl⟩ := hE
    exact rtI hx hb hr hlk hP hD hS dX8_undo_9
abbrev rmX8_tells : Room := { frames := 2, cells := 0, slots := 0, locals := 45 }
noncomputable def fX8_tells (q1 : Int32) (q2 : Int32) (q3 : Int32) (g_undoMany : Int32) (g_now : Nat → Int32) (g_before : Nat → Int32) : Option (Int32 × Int32 × (Nat → Int32) × (Nat → Int32)) := bd (fX8_isSlot q1) (fun u1 => br (u1 = 0) (some (((-1 : Int32), g_undoMany, g_now, g_before))) (bd (fX8_in q2.toInt64 (0 : Int64) (40 : Int64)) (fun u3 => br (u3 = 0) (some (((-1 : Int32), g_undoMany, g_now, g_before))) (gd (¬ (((41 : Int32) * q1) + q2) < 0 ∧ (((41 : Int32) * q1) + q2).toNatClampNeg < 164) (br ((g_now (((41 : Int32) * q1) + q2).toNatClampNeg) = q3) (some (((-2 : Int32), g_undoMany, g_now, g_before))) (bd (fX8_note g_undoMany g_now g_before) (fun u7 => gd (¬ (((41 : Int32) * q1) + q2) < 0 ∧ (((41 : Int32) * q1) + q2).toNatClampNeg < 164) (lt_ (upd g_now (((41 : Int32) * q1) + q2).toNatClampNeg (vp_nar .boolean q3)) (fun y9 => bd (fX8_manyOf q1 y9) (fun u10 => some ((u10, u7.1, y9, u7.2))))))))))))
set_option maxHeartbeats 4000000 in
set_option maxRecDepth 100000 in
theorem cX8_tells_ct (l : Launch) (D : va_G) (cI cL cC cZ : ClassId) (a_this a_text a_now a_before a_read a_first a_second a_sums a_other a_grid a_order : Nat) (g_length : Int32) (g_undoMany : Int32) (g_spot : Int32) (g_step : Int32) (g_coverMany : Int32) (g_leastSums : Int32) (g_leastPart : Int32) (g_now : Nat → Int32) (g_before : Nat → Int32) (q1 : Int32) (q2 : Int32) (q3 : Int32) (r0 : Int32) (v_undoMany : Int32) (v_now : Nat → Int32) (v_before : Nat → Int32) (hf : fX8_tells q1 q2 q3 g_undoMany g_now g_before = some ((r0, v_undoMany, v_now, v_before))) : CtI l yX8_tells wsX8_tells rmX8_tells D (tyz cI cL cC cZ) [.ref a_this, .int q1, .int q2, .int q3] [(a_this, .inr (8, [.int g_length, .ref a_text, .ref a_now, .ref a_before, .int g_undoMany, .ref a_read, .int g_spot, .ref a_first, .ref a_second, .ref a_sums, .ref a_other, .int g_step, .int g_coverMany, .ref a_grid, .ref a_order, .int g_leastSums, .int g_leastPart])), (a_now, .inl (cZ, 164, .inl g_now)), (a_before, .inl (cZ, 984, .inl g_before))] [(a_this, .inr (8, [.int g_length, .ref a_text, .ref a_now, .ref a_before, .int v_undoMany, .ref a_read, .int g_spot, .ref a_first, .ref a_second, .ref a_sums, .ref a_other, .int g_step, .int g_coverMany, .ref a_grid, .ref a_order, .int g_leastSums, .int g_leastPart])), (a_now, .inl (cZ, 164, .inl v_now)), (a_before, .inl (cZ, 984, .inl v_before))] r0 := by
  refine CtI.make (cc := cX8_tells) (maxL := 4) (ty := .int) (by decide) rfl (Nat.le_of_ble_eq_true rfl) ?_
  intro p e s m below meth c A ls C0 hN hA hP hD hl
  obtain ⟨hx, hb, hr, hml, hown, hts, hlk⟩ := id C0
  have hown : s.vm.findClass RX8 = some m.cls := hown
  have hS : va_S A s.heap s.heap [] := va_S.rf
  have hP : va_P D vwCl [(a_this, .inr (8, [.int g_length, .ref a_text, .ref a_now, .ref a_before, .int g_undoMany, .ref a_read, .int g_spot, .ref a_first, .ref a_second, .ref a_sums, .ref a_other, .int g_step, .int g_coverMany, .ref a_grid, .ref a_order, .int g_leastSums, .int g_leastPart])), (a_now, .inl (cZ, 164, .inl g_now)), (a_before, .inl (cZ, 984, .inl g_before))] s.heap := hP
  have hD : va_D A [(a_this, .inr (8, [.int g_length, .ref a_text, .ref a_now, .ref a_before, .int g_undoMany, .ref a_read, .int g_spot, .ref a_first, .ref a_second, .ref a_sums, .ref a_other, .int g_step, .int g_coverMany, .ref a_grid, .ref a_order, .int g_leastSums, .int g_leastPart])), (a_now, .inl (cZ, 164, .inl g_now)), (a_before, .inl (cZ, 984, .inl g_before))] := hD
  have hl : lv_has ls 4 [(0, .ref a_this), (1, .int q1), (2, .int q2), (3, .int q3)] := hl
  have z1 := va_cwS (R := rmX8_tells) (rm := rmX8_isSlot) (mc := 0) (ms := 0) 1 hts gX8_tells_X8_isSlot rfl rfl rfl (by decide +kernel) ⟨Nat.le_of_ble_eq_true rfl, Nat.le_of_ble_eq_true rfl⟩
  have z2 := hts (.constantLong RX8 90 (40)) (by decide +kernel)
  have z3 := va_cwS (R := rmX8_tells) (rm := rmX8_in) (mc := 0) (ms := 0) 3 hts gX8_tells_X8_in rfl rfl rfl (by decide +kernel) ⟨Nat.le_of_ble_eq_true rfl, Nat.le_of_ble_eq_true rfl⟩
  have z4 : ∀ w ∈ u_ws RX8 TX8 17, w ∈ wsX8_tells := by decide +kernel
  have z5 := hts (.fieldLink RX8 13 "LittleSumsModel" "now" "[Z") (by decide +kernel)
  have z6 := cwV (R := rmX8_tells) (rm := rmX8_note) (mc := 0) (ms := 0) 0 hts gX8_tells_X8_note rfl rfl rfl (by decide +kernel) ⟨Nat.le_of_ble_eq_true rfl, Nat.le_of_ble_eq_true rfl⟩
  have z7 := cwV (R := rmX8_tells) (rm := rmX8_manyOf) (mc := 0) (ms := 0) 1 hts gX8_tells_X8_manyOf rfl rfl rfl (by decide +kernel) ⟨Nat.le_of_ble_eq_true rfl, Nat.le_of_ble_eq_true rfl⟩
  unfold fX8_tells at hf
  obtain ⟨H, eH⟩ : ∃ z, z = s.heap := ⟨_, rfl⟩
  obtain ⟨locs, eL⟩ : ∃ z : List Loc, z = [] := ⟨_, rfl⟩
  have hP : va_P D vwCl [(a_this, .inr (8, [.int g_length, .ref a_text, .ref a_now, .ref a_before, .int g_undoMany, .ref a_read, .int g_spot, .ref a_first, .ref a_second, .ref a_sums, .ref a_other, .int g_step, .int g_coverMany, .ref a_grid, .ref a_order, .int g_leastSums, .int g_leastPart])), (a_now, .inl (cZ, 164, .inl g_now)), (a_before, .inl (cZ, 984, .inl g_before))] H := by rw [eH]; exact hP
  have hS : va_S A s.heap H locs := by rw [eH, eL]; exact hS
  suffices hG : W p l e rmX8_tells s m ([.ref a_this, .int q1, .int q2, .int q3] : List Value).toArray below meth c H locs 0 0 (MQ below (cQi D r0 A [(a_this, .inr (8, [.int g_length, .ref a_text, .ref a_now, .ref a_before, .int v_undoMany, .ref a_read, .int g_spot, .ref a_first, .ref a_second, .ref a_sums, .ref a_other, .int g_step, .int g_coverMany, .ref a_grid, .ref a_order, .int g_leastSums, .int g_leastPart])), (a_now, .inl (cZ, 164, .inl v_now)), (a_before, .inl (cZ, 984, .inl v_before))]) ([.ref a_this, .int q1, .int q2, .int q3] : List Value).toArray s 0 0 A) (F0 m 0 ls []) by rw [eH, eL] at hG; exact hG
  refine lv_iload_n hx hb dX8_tells_0 rfl (lv_at hl 1 rfl) ?_
  obtain ⟨u1, hu1, hf⟩ := bd_some hf
  refine caSI (rest := []) (As := [.int q1]) (wr := [(a_this, .inr (8, [.int g_length, .ref a_text, .ref a_now, .ref a_before, .int g_undoMany, .ref a_read, .int g_spot, .ref a_first, .ref a_second, .ref a_sums, .ref a_other, .int g_step, .int g_coverMany, .ref a_grid, .ref a_order, .int g_leastSums, .int g_leastPart])), (a_now, .inl (cZ, 164, .inl g_now)), (a_before, .inl (cZ, 984, .inl g_before))]) (wo := [(a_this, .inr (8, [.int g_length, .ref a_text, .ref a_now, .ref a_before, .int g_undoMany, .ref a_read, .int g_spot, .ref a_first, .ref a_second, .ref a_sums, .ref a_other, .int g_step, .int g_coverMany, .ref a_grid, .ref a_order, .int g_leastSums, .int g_leastPart])), (a_now, .inl (cZ, 164, .inl g_now)), (a_before, .inl (cZ, 984, .inl g_before))]) ⟨hx, hb, hml, hown, hts⟩ hN hP hD hS hA (cX8_isSlot_ct l D cI cL cC cZ q1 u1 hu1) z1 [] [0, 1, 2] [0, 1, 2] rfl (by decide) rfl (by decide) (by decide) rfl (by decide) rfl hl.1 rfl (Nat.le_of_ble_eq_true rfl) dX8_tells_1 ⟨Nat.zero_le _, Nat.zero_le _⟩ (fun H locs hP hD hS => ?_)
  refine lv_if_eq (tgt := 19) hx hb dX8_tells_4 (by decide) (fun c2 => ?_) (fun c2 => ?_)
  · have hf := br_pos c2 hf
    refine lv_iconst (v := -1) hx hb dX8_tells_19 (by decide) ?_
    have hE : ((-1 : Int32), g_undoMany, g_now, g_before) = (r0, v_undoMany, v_now, v_before) := Option.some.inj hf
    simp only [Prod.mk.injEq] at hE
    obtain ⟨rfl, rfl, rfl, rfl⟩ := hE
    exact rtI hx hb hr hlk hP hD hS dX8_tells_20
  · have hf := br_neg c2 hf
    refine lv_iload_n hx hb dX8_tells_7 rfl (lv_at hl 2 rfl) ?_
    refine lv_i2l hx hb dX8_tells_8 rfl ?_
    refine lv_lconst (v := 0) hx hb dX8_tells_9 (by decide) ?_
    refine lv_ldc2 (v := 40) hx hb hown z2 dX8_tells_10 ?_
    obtain ⟨u3, hu3, hf⟩ := bd_some hf
    refine caSI (rest := []) (As := [.long q2.toInt64, .long (0 : Int64), .long (40 : Int64)]) (wr := [(a_this, .inr (8, [.int g_length, .ref a_text, .ref a_now, .ref a_before, .int g_undoMany, .ref a_read, .int g_spot, .ref a_first, .ref a_second, .ref a_sums, .ref a_other, .int g_step, .int g_coverMany, .ref a_grid, .ref a_order, .int g_leastSums, .int g_leastPart])), (a_now, .inl (cZ, 164, .inl g_now)), (a_before, .inl (cZ, 984, .inl g_before))]) (wo := [(a_this, .inr (8, [.int g_length, .ref a_text, .ref a_now, .ref a_before, .int g_undoMany, .ref a_read, .int g_spot, .ref a_first, .ref a_second, .ref a_sums, .ref a_other, .int g_step, .int g_coverMany, .ref a_grid, .ref a_order, .int g_leastSums, .int g_leastPart])), (a_now, .inl (cZ, 164, .inl g_now)), (a_before, .inl (cZ, 984, .inl g_before))]) ⟨hx, hb, hml, hown, hts⟩ hN hP hD hS hA (cX8_in_ct l D cI cL cC cZ q2.toInt64 (0 : Int64) (40 : Int64) u3 hu3) z3 [] [0, 1, 2] [0, 1, 2] rfl (by decide) rfl (by decide) (by decide) rfl (by decide) rfl hl.1 rfl (Nat.le_of_ble_eq_true rfl) dX8_tells_13 ⟨Nat.zero_le _, Nat.zero_le _⟩ (fun H locs hP hD hS => ?_)
    refine lv_if_ne (tgt := 21) hx hb dX8_tells_16 (by decide) (fun c4 => ?_) (fun c4 => ?_)
    · have hf := br_neg c4 hf
      refine lv_aload_n hx hb dX8_tells_21 rfl (lv_at hl 0 rfl) ?_
      refine va_get (D := D) (ci := 8) (v := .ref a_now) (C := RX8) (T := TX8) (N := 17) hx hb hts z4 hown hN.1 hP 0 rfl rfl 2 (by decide) z5 (fun _ h9 => h9) rfl dX8_tells_22 ?_
      refine lv_bipush (v := 41) hx hb dX8_tells_25 (by decide) ?_
      refine lv_iload_n hx hb dX8_tells_27 rfl (lv_at hl 1 rfl) ?_
      refine lv_imul hx hb dX8_tells_28 ?_
      refine lv_iload_n hx hb dX8_tells_29 rfl (lv_at hl 2 rfl) ?_
      refine lv_iadd hx hb dX8_tells_30 ?_
      obtain ⟨c5, hf⟩ := gd_some hf
      refine va_zald hx hb hN.1 hP 1 3 rfl rfl (ix_in c5) dX8_tells_31 ?_
      refine lv_iload_n hx hb dX8_tells_32 rfl (lv_at hl 3 rfl) ?_
      refine lv_icmp_ne (tgt := 39) hx hb dX8_tells_33 (by decide) (fun c6 => ?_) (fun c6 => ?_)
      · have hf := br_neg c6 hf
        refine lv_aload_n hx hb dX8_tells_39 rfl (lv_at hl 0 rfl) ?_
        obtain ⟨u7, hu7, hf⟩ := bd_some hf
        refine caVV (rest := []) (As := []) (wr := []) (wo := [(a_this, .inr (8, [.int g_length, .ref a_text, .ref a_now, .ref a_before, .int u7.1, .ref a_read, .int g_spot, .ref a_first, .ref a_second, .ref a_sums, .ref a_other, .int g_step, .int g_coverMany, .ref a_grid, .ref a_order, .int g_leastSums, .int g_leastPart])), (a_now, .inl (cZ, 164, .inl g_now)), (a_before, .inl (cZ, 984, .inl u7.2))]) ⟨hx, hb, hml, hown, hts⟩ hN hP hD hS hA (cX8_note_ct l D cI cL cC cZ a_this a_text a_now a_before a_read a_first a_second a_sums a_other a_grid a_order g_length g_undoMany g_spot g_step g_coverMany g_leastSums g_leastPart g_now g_before u7.1 u7.2 hu7) z6 0 8 rfl rfl [0, 1, 2] [] [0, 1, 2] rfl (by decide) rfl (by decide) (by decide) rfl (by decide) rfl hl.1 rfl (Nat.le_of_ble_eq_true rfl) dX8_tells_40 ⟨Nat.zero_le _, Nat.zero_le _⟩ (fun H locs hP hD hS => ?_)
        refine lv_aload_n hx hb dX8_tells_43 rfl (lv_at hl 0 rfl) ?_
        refine va_get (D := D) (ci := 8) (v := .ref a_now) (C := RX8) (T := TX8) (N := 17) hx hb hts z4 hown hN.1 hP 0 rfl rfl 2 (by decide) z5 (fun _ h9 => h9) rfl dX8_tells_44 ?_
        refine lv_bipush (v := 41) hx hb dX8_tells_47 (by decide) ?_
        refine lv_iload_n hx hb dX8_tells_49 rfl (lv_at hl 1 rfl) ?_
        refine lv_imul hx hb dX8_tells_50 ?_
        refine lv_iload_n hx hb dX8_tells_51 rfl (lv_at hl 2 rfl) ?_
        refine lv_iadd hx hb dX8_tells_52 ?_
        refine lv_iload_n hx hb dX8_tells_53 rfl (lv_at hl 3 rfl) ?_
        obtain ⟨c8, hf⟩ := gd_some hf
        refine va_zast hx hb hN.1 hP hD hS 1 3 rfl rfl (ix_in c8) dX8_tells_54 (fun H locs hP hD hS => ?_)
        obtain ⟨y9, ey9⟩ : ∃ z, z = upd g_now (((41 : Int32) * q1) + q2).toNatClampNeg (vp_nar .boolean q3) := ⟨_, rfl⟩
        have hf := lt_some hf y9 ey9
        have hP : va_P D vwCl [(a_this, .inr (8, [.int g_length, .ref a_text, .ref a_now, .ref a_before, .int u7.1, .ref a_read, .int g_spot, .ref a_first, .ref a_second, .ref a_sums, .ref a_other, .int g_step, .int g_coverMany, .ref a_grid, .ref a_order, .int g_leastSums, .int g_leastPart])), (a_now, .inl (cZ, 164, .inl y9)), (a_before, .inl (cZ, 984, .inl u7.2))] H := by rw [ey9]; exact hP
        have hD : va_D A [(a_this, .inr (8, [.int g_length, .ref a_text, .ref a_now, .ref a_before, .int u7.1, .ref a_read, .int g_spot, .ref a_first, .ref a_second, .ref a_sums, .ref a_other, .int g_step, .int g_coverMany, .ref a_grid, .ref a_order, .int g_leastSums, .int g_leastPart])), (a_now, .inl (cZ, 164, .inl y9)), (a_before, .inl (cZ, 984, .inl u7.2))] := by rw [ey9]; exact hD
        refine lv_aload_n hx hb dX8_tells_55 rfl (lv_at hl 0 rfl) ?_
        refine lv_iload_n hx hb dX8_tells_56 rfl (lv_at hl 1 rfl) ?_
        obtain ⟨u10, hu10, hf⟩ := bd_some hf
        refine caVI (rest := []) (As := [.int q1]) (wr := [(a_before, .inl (cZ, 984, .inl u7.2))]) (wo := [(a_this, .inr (8, [.int g_length, .ref a_text, .ref a_now, .ref a_before, .int u7.1, .ref a_read, .int g_spot, .ref a_first, .ref a_second, .ref a_sums, .ref a_other, .int g_step, .int g_coverMany, .ref a_grid, .ref a_order, .int g_leastSums, .int g_leastPart])), (a_now, .inl (cZ, 164, .inl y9)), (a_before, .inl (cZ, 984, .inl u7.2))]) ⟨hx, hb, hml, hown, hts⟩ hN hP hD hS hA (cX8_manyOf_ct l D cI cL cC cZ a_this a_text a_now a_before a_read a_first a_second a_sums a_other a_grid a_order g_length u7.1 g_spot g_step g_coverMany g_leastSums g_leastPart y9 q1 u10 hu10) z7 0 8 rfl rfl [0, 1] [2] [1, 2, 0] rfl (by decide) rfl (by decide) (by decide) rfl (by decide) rfl hl.1 rfl (Nat.le_of_ble_eq_true rfl) dX8_tells_57 ⟨Nat.zero_le _, Nat.zero_le _⟩ (fun H locs hP hD hS => ?_)
        have hE : (u10, u7.1, y9, u7.2) = (r0, v_undoMany, v_now, v_before) := Option.some.inj hf
        simp only [Prod.mk.injEq] at hE
        obtain ⟨rfl, rfl, rfl, rfl⟩ := hE
        exact rtI hx hb hr hlk hP hD hS dX8_tells_60
      · have hf := br_pos c6 hf
        refine lv_bipush (v := -2) hx hb dX8_tells_36 (by decide) ?_
        have hE : ((-2 : Int32), g_undoMany, g_now, g_before) = (r0, v_undoMany, v_now, v_before) := Option.some.inj hf
        simp only [Prod.mk.injEq] at hE
        obtain ⟨rfl, rfl, rfl, rfl⟩ := hE
        exact rtI hx hb hr hlk hP hD hS dX8_tells_38
    · have hf := br_pos c4 hf
      refine lv_iconst (v := -1) hx hb dX8_tells_19 (by decide) ?_
      have hE : ((-1 : Int32), g_undoMany, g_now, g_before) = (r0, v_undoMany, v_now, v_before) := Option.some.inj hf
      simp only [Prod.mk.injEq] at hE
      obtain ⟨rfl, rfl, rfl, rfl⟩ := hE
      exact rtI hx hb hr hlk hP hD hS dX8_tells_20
abbrev rmX8_put : Room := { frames := 3, cells := 0, slots := 0, locals := 68 }
noncomputable def fX8_put (q1 : Int32) (q2 : Int32) (g_undoMany : Int32) (g_now : Nat → Int32) (g_before : Nat → Int32) : Option (Int32 × Int32 × (Nat → Int32) × (Nat → Int32)) := bd (fX8_tells q1 q2 (1 : Int32) g_undoMany g_now g_before) (fun u1 => some ((u1.1, u1.2.1, u1.2.2.1, u1.2.2.2)))
set_option maxHeartbeats 4000000 in
set_option maxRecDepth 100000 in
theorem cX8_put_ct (l : Launch) (D : va_G) (cI cL cC cZ : ClassId) (a_this a_text a_now a_before a_read a_first a_second a_sums a_other a_grid a_order : Nat) (g_length : Int32) (g_undoMany : Int32) (g_spot : Int32) (g_step : Int32) (g_coverMany : Int32) (g_leastSums : Int32) (g_leastPart : Int32) (g_now : Nat → Int32) (g_before : Nat → Int32) (q1 : Int32) (q2 : Int32) (r0 : Int32) (v_undoMany : Int32) (v_now : Nat → Int32) (v_before : Nat → Int32) (hf : fX8_put q1 q2 g_undoMany g_now g_before = some ((r0, v_undoMany, v_now, v_before))) : CtI l yX8_put wsX8_put rmX8_put D (tyz cI cL cC cZ) [.ref a_this, .int q1, .int q2] [(a_this, .inr (8, [.int g_length, .ref a_text, .ref a_now, .ref a_before, .int g_undoMany, .ref a_read, .int g_spot, .ref a_first, .ref a_second, .ref a_sums, .ref a_other, .int g_step, .int g_coverMany, .ref a_grid, .ref a_order, .int g_leastSums, .int g_leastPart])), (a_now, .inl (cZ, 164, .inl g_now)), (a_before, .inl (cZ, 984, .inl g_before))] [(a_this, .inr (8, [.int g_length, .ref a_text, .ref a_now, .ref a_before, .int v_undoMany, .ref a_read, .int g_spot, .ref a_first, .ref a_second, .ref a_sums, .ref a_other, .int g_step, .int g_coverMany, .ref a_grid, .ref a_order, .int g_leastSums, .int g_leastPart])), (a_now, .inl (cZ, 164, .inl v_now)), (a_before, .inl (cZ, 984, .inl v_before))] r0 := by
  refine CtI.make (cc := cX8_put) (maxL := 3) (ty := .int) (by decide) rfl (Nat.le_of_ble_eq_true rfl) ?_
  intro p e s m below meth c A ls C0 hN hA hP hD hl
  obtain ⟨hx, hb, hr, hml, hown, hts, hlk⟩ := id C0
  have hown : s.vm.findClass RX8 = some m.cls := hown
  have hS : va_S A s.heap s.heap [] := va_S.rf
  have hP : va_P D vwCl [(a_this, .inr (8, [.int g_length, .ref a_text, .ref a_now, .ref a_before, .int g_undoMany, .ref a_read, .int g_spot, .ref a_first, .ref a_second, .ref a_sums, .ref a_other, .int g_step, .int g_coverMany, .ref a_grid, .ref a_order, .int g_leastSums, .int g_leastPart])), (a_now, .inl (cZ, 164, .inl g_now)), (a_before, .inl (cZ, 984, .inl g_before))] s.heap := hP
  have hD : va_D A [(a_this, .inr (8, [.int g_length, .ref a_text, .ref a_now, .ref a_before, .int g_undoMany, .ref a_read, .int g_spot, .ref a_first, .ref a_second, .ref a_sums, .ref a_other, .int g_step, .int g_coverMany, .ref a_grid, .ref a_order, .int g_leastSums, .int g_leastPart])), (a_now, .inl (cZ, 164, .inl g_now)), (a_before, .inl (cZ, 984, .inl g_before))] := hD
  have hl : lv_has ls 3 [(0, .ref a_this), (1, .int q1), (2, .int q2)] := hl
  have z1 := cwV (R := rmX8_put) (rm := rmX8_tells) (mc := 0) (ms := 0) 3 hts gX8_put_X8_tells rfl rfl rfl (by decide +kernel) ⟨Nat.le_of_ble_eq_true rfl, Nat.le_of_ble_eq_true rfl⟩
  unfold fX8_put at hf
  obtain ⟨H, eH⟩ : ∃ z, z = s.heap := ⟨_, rfl⟩
  obtain ⟨locs, eL⟩ : ∃ z : List Loc, z = [] := ⟨_, rfl⟩
  have hP : va_P D vwCl [(a_this, .inr (8, [.int g_length, .ref a_text, .ref a_now, .ref a_before, .int g_undoMany, .ref a_read, .int g_spot, .ref a_first, .ref a_second, .ref a_sums, .ref a_other, .int g_step, .int g_coverMany, .ref a_grid, .ref a_order, .int g_leastSums, .int g_leastPart])), (a_now, .inl (cZ, 164, .inl g_now)), (a_before, .inl (cZ, 984, .inl g_before))] H := by rw [eH]; exact hP
  have hS : va_S A s.heap H locs := by rw [eH, eL]; exact hS
  suffices hG : W p l e rmX8_put s m ([.ref a_this, .int q1, .int q2] : List Value).toArray below meth c H locs 0 0 (MQ below (cQi D r0 A [(a_this, .inr (8, [.int g_length, .ref a_text, .ref a_now, .ref a_before, .int v_undoMany, .ref a_read, .int g_spot, .ref a_first, .ref a_second, .ref a_sums, .ref a_other, .int g_step, .int g_coverMany, .ref a_grid, .ref a_order, .int g_leastSums, .int g_leastPart])), (a_now, .inl (cZ, 164, .inl v_now)), (a_before, .inl (cZ, 984, .inl v_before))]) ([.ref a_this, .int q1, .int q2] : List Value).toArray s 0 0 A) (F0 m 0 ls []) by rw [eH, eL] at hG; exact hG
  refine lv_aload_n hx hb dX8_put_0 rfl (lv_at hl 0 rfl) ?_
  refine lv_iload_n hx hb dX8_put_1 rfl (lv_at hl 1 rfl) ?_
  refine lv_iload_n hx hb dX8_put_2 rfl (lv_at hl 2 rfl) ?_
  refine lv_iconst (v := 1) hx hb dX8_put_3 (by decide) ?_
  obtain ⟨u1, hu1, hf⟩ := bd_some hf
  refine caVI (rest := []) (As := [.int q1, .int q2, .int (1 : Int32)]) (wr := []) (wo := [(a_this, .inr (8, [.int g_length, .ref a_text, .ref a_now, .ref a_before, .int u1.2.1, .ref a_read, .int g_spot, .ref a_first, .ref a_second, .ref a_sums, .ref a_other, .int g_step, .int g_coverMany, .ref a_grid, .ref a_order, .int g_leastSums, .int g_leastPart])), (a_now, .inl (cZ, 164, .inl u1.2.2.1)), (a_before, .inl (cZ, 984, .inl u1.2.2.2))]) ⟨hx, hb, hml, hown, hts⟩ hN hP hD hS hA (cX8_tells_ct l D cI cL cC cZ a_this a_text a_now a_before a_read a_first a_second a_sums a_other a_grid a_order g_length g_undoMany g_spot g_step g_coverMany g_leastSums g_leastPart g_now g_before q1 q2 (1 : Int32) u1.1 u1.2.1 u1.2.2.1 u1.2.2.2 hu1) z1 0 8 rfl rfl [0, 1, 2] [] [0, 1, 2] rfl (by decide) rfl (by decide) (by decide) rfl (by decide) rfl hl.1 rfl (Nat.le_of_ble_eq_true rfl) dX8_put_4 ⟨Nat.zero_le _, Nat.zero_le _⟩ (fun H locs hP hD hS => ?_)
  have hE : (u1.1, u1.2.1, u1.2.2.1, u1.2.2.2) = (r0, v_undoMany, v_now, v_before) := Option.some.inj hf
  simp only [Prod.mk.injEq] at hE
  obtain ⟨rfl, rfl, rfl, rfl⟩ := hE
  exact rtI hx hb hr hlk hP hD hS dX8_put_7
abbrev rmX8_take : Room := { frames := 3, cells := 0, slots := 0, locals := 68 }
noncomputable def fX8_take (q1 : Int32) (q2 : Int32) (g_undoMany : Int32) (g_now : Nat → Int32) (g_before : Nat → Int32) : Option (Int32 × Int32 × (Nat → Int32) × (Nat → Int32)) := bd (fX8_tells q1 q2 (0 : Int32) g_undoMany g_now g_before) (fun u1 => some ((u1.1, u1.2.1, u1.2.2.1, u1.2.2.2)))
set_option maxHeartbeats 4000000 in
set_option maxRecDepth 100000 in
theorem cX8_take_ct (l : Launch) (D : va_G) (cI cL cC cZ : ClassId) (a_this a_text a_now a_before a_read a_first a_second a_sums a_other a_grid a_order : Nat) (g_length : Int32) (g_undoMany : Int32) (g_spot : Int32) (g_step : Int32) (g_coverMany : Int32) (g_leastSums : Int32) (g_leastPart : Int32) (g_now : Nat → Int32) (g_before : Nat → Int32) (q1 : Int32) (q2 : Int32) (r0 : Int32) (v_undoMany : Int32) (v_now : Nat → Int32) (v_before : Nat → Int32) (hf : fX8_take q1 q2 g_undoMany g_now g_before = some ((r0, v_undoMany, v_now, v_before))) : CtI l yX8_take wsX8_take rmX8_take D (tyz cI cL cC cZ) [.ref a_this, .int q1, .int q2] [(a_this, .inr (8, [.int g_length, .ref a_text, .ref a_now, .ref a_before, .int g_undoMany, .ref a_read, .int g_spot, .ref a_first, .ref a_second, .ref a_sums, .ref a_other, .int g_step, .int g_coverMany, .ref a_grid, .ref a_order, .int g_leastSums, .int g_leastPart])), (a_now, .inl (cZ, 164, .inl g_now)), (a_before, .inl (cZ, 984, .inl g_before))] [(a_this, .inr (8, [.int g_length, .ref a_text, .ref a_now, .ref a_before, .int v_undoMany, .ref a_read, .int g_spot, .ref a_first, .ref a_second, .ref a_sums, .ref a_other, .int g_step, .int g_coverMany, .ref a_grid, .ref a_order, .int g_leastSums, .int g_leastPart])), (a_now, .inl (cZ, 164, .inl v_now)), (a_before, .inl (cZ, 984, .inl v_before))] r0 := by
  refine CtI.make (cc := cX8_take) (maxL := 3) (ty := .int) (by decide) rfl (Nat.le_of_ble_eq_true rfl) ?_
  intro p e s m below meth c A ls C0 hN hA hP hD hl
  obtain ⟨hx, hb, hr, hml, hown, hts, hlk⟩ := id C0
  have hown : s.vm.findClass RX8 = some m.cls := hown
  have hS : va_S A s.heap s.heap [] := va_S.rf
  have hP : va_P D vwCl [(a_this, .inr (8, [.int g_length, .ref a_text, .ref a_now, .ref a_before, .int g_undoMany, .ref a_read, .int g_spot, .ref a_first, .ref a_second, .ref a_sums, .ref a_other, .int g_step, .int g_coverMany, .ref a_grid, .ref a_order, .int g_leastSums, .int g_leastPart])), (a_now, .inl (cZ, 164, .inl g_now)), (a_before, .inl (cZ, 984, .inl g_before))] s.heap := hP
  have hD : va_D A [(a_this, .inr (8, [.int g_length, .ref a_text, .ref a_now, .ref a_before, .int g_undoMany, .ref a_read, .int g_spot, .ref a_first, .ref a_second, .ref a_sums, .ref a_other, .int g_step, .int g_coverMany, .ref a_grid, .ref a_order, .int g_leastSums, .int g_leastPart])), (a_now, .inl (cZ, 164, .inl g_now)), (a_before, .inl (cZ, 984, .inl g_before))] := hD
  have hl : lv_has ls 3 [(0, .ref a_this), (1, .int q1), (2, .int q2)] := hl
  have z1 := cwV (R := rmX8_take) (rm := rmX8_tells) (mc := 0) (ms := 0) 3 hts gX8_take_X8_tells rfl rfl rfl (by decide +kernel) ⟨Nat.le_of_ble_eq_true rfl, Nat.le_of_ble_eq_true rfl⟩
  unfold fX8_take at hf
  obtain ⟨H, eH⟩ : ∃ z, z = s.heap := ⟨_, rfl⟩
  obtain ⟨locs, eL⟩ : ∃ z : List Loc, z = [] := ⟨_, rfl⟩
  have hP : va_P D vwCl [(a_this, .inr (8, [.int g_length, .ref a_text, .ref a_now, .ref a_before, .int g_undoMany, .ref a_read, .int g_spot, .ref a_first, .ref a_second, .ref a_sums, .ref a_other, .int g_step, .int g_coverMany, .ref a_grid, .ref a_order, .int g_leastSums, .int g_leastPart])), (a_now, .inl (cZ, 164, .inl g_now)), (a_before, .inl (cZ, 984, .inl g_before))] H := by rw [eH]; exact hP
  have hS : va_S A s.heap H locs := by rw [eH, eL]; exact hS
  suffices hG : W p l e rmX8_take s m ([.ref a_this, .int q1, .int q2] : List Value).toArray below meth c H locs 0 0 (MQ below (cQi D r0 A [(a_this, .inr (8, [.int g_length, .ref a_text, .ref a_now, .ref a_before, .int v_undoMany, .ref a_read, .int g_spot, .ref a_first, .ref a_second, .ref a_sums, .ref a_other, .int g_step, .int g_coverMany, .ref a_grid, .ref a_order, .int g_leastSums, .int g_leastPart])), (a_now, .inl (cZ, 164, .inl v_now)), (a_before, .inl (cZ, 984, .inl v_before))]) ([.ref a_this, .int q1, .int q2] : List Value).toArray s 0 0 A) (F0 m 0 ls []) by rw [eH, eL] at hG; exact hG
  refine lv_aload_n hx hb dX8_take_0 rfl (lv_at hl 0 rfl) ?_
  refine lv_iload_n hx hb dX8_take_1 rfl (lv_at hl 1 rfl) ?_
  refine lv_iload_n hx hb dX8_take_2 rfl (lv_at hl 2 rfl) ?_
  refine lv_iconst (v := 0) hx hb dX8_take_3 (by decide) ?_
  obtain ⟨u1, hu1, hf⟩ := bd_some hf
  refine caVI (rest := []) (As := [.int q1, .int q2, .int (0 : Int32)]) (wr := []) (wo := [(a_this, .inr (8, [.int g_length, .ref a_text, .ref a_now, .ref a_before, .int u1.2.1, .ref a_read, .int g_spot, .ref a_first, .ref a_second, .ref a_sums, .ref a_other, .int g_step, .int g_coverMany, .ref a_grid, .ref a_order, .int g_leastSums, .int g_leastPart])), (a_now, .inl (cZ, 164, .inl u1.2.2.1)), (a_before, .inl (cZ, 984, .inl u1.2.2.2))]) ⟨hx, hb, hml, hown, hts⟩ hN hP hD hS hA (cX8_tells_ct l D cI cL cC cZ a_this a_text a_now a_before a_read a_first a_second a_sums a_other a_grid a_order g_length g_undoMany g_spot g_step g_coverMany g_leastSums g_leastPart g_now g_before q1 q2 (0 : Int32) u1.1 u1.2.1 u1.2.2.1 u1.2.2.2 hu1) z1 0 8 rfl rfl [0, 1, 2] [] [0, 1, 2] rfl (by decide) rfl (by decide) (by decide) rfl (by decide) rfl hl.1 rfl (Nat.le_of_ble_eq_true rfl) dX8_take_4 ⟨Nat.zero_le _, Nat.zero_le _⟩ (fun H locs hP hD hS => ?_)
  have hE : (u1.1, u1.2.1, u1.2.2.1, u1.2.2.2) = (r0, v_undoMany, v_now, v_before) := Option.some.inj hf
  simp only [Prod.mk.injEq] at hE
  obtain ⟨rfl, rfl, rfl, rfl⟩ := hE
  exact rtI hx hb hr hlk hP hD hS dX8_take_7
abbrev rmX8_lists : Room := { frames := 0, cells := 0, slots := 0, locals := 0 }
noncomputable def bX8_lists_35 (n_p2 : Nat) (x1 : Int32) (x3 : Int32) (x4 : Int32) (g_now : Nat → Int32) (g_p2 : Nat → Int32) : Option ((Int32 × Int32 × (Nat → Int32)) ⊕ (Int32 × (Nat → Int32))) := lt_ (x4 + (1 : Int32)) (fun y1 => some (Sum.inl ((x3, y1, g_p2))))
noncomputable def bX8_lists_5 (n_p2 : Nat) (x1 : Int32) (g_now : Nat → Int32) (x3 : Int32) (x4 : Int32) (g_p2 : Nat → Int32) : Option ((Int32 × Int32 × (Nat → Int32)) ⊕ (Int32 × (Nat → Int32))) := br ((41 : Int32) ≤ x4) (some (Sum.inr ((x3, g_p2)))) (gd (¬ (((41 : Int32) * x1) + x4) < 0 ∧ (((41 : Int32) * x1) + x4).toNatClampNeg < 164) (br ((g_now (((41 : Int32) * x1) + x4).toNatClampNeg) = 0) (bX8_lists_35 n_p2 x1 x3 x4 g_now g_p2) (gd (¬ x3 < 0 ∧ x3.toNatClampNeg < n_p2) (lt_ (upd g_p2 x3.toNatClampNeg x4) (fun y6 => lt_ (x3 + (1 : Int32)) (fun y7 => bX8_lists_35 n_p2 x1 y7 x4 g_now y6))))))
noncomputable def sX8_lists_5 (x1 : Int32) (g_now : Nat → Int32) (n_p2 : Nat) : (Int32 × Int32 × (Nat → Int32)) → Option ((Int32 × Int32 × (Nat → Int32)) ⊕ (Int32 × (Nat → Int32))) := fun q => bX8_lists_5 n_p2 x1 g_now q.1 q.2.1 q.2.2
noncomputable def fX8_lists (q1 : Int32) (n_p2 : Nat) (g_now : Nat → Int32) (g_p2 : Nat → Int32) : Option (Int32 × (Nat → Int32)) := run (sX8_lists_5 q1 g_now n_p2) (((0 : Int32), (0 : Int32), g_p2))
set_option maxHeartbeats 4000000 in
set_option maxRecDepth 100000 in
theorem cX8_lists_ct (l : Launch) (D : va_G) (cI cL cC cZ : ClassId) (a_this a_p2 a_text a_now a_before a_read a_first a_second a_sums a_other a_grid a_order : Nat) (n_p2 : Nat) (g_length : Int32) (g_undoMany : Int32) (g_spot : Int32) (g_step : Int32) (g_coverMany : Int32) (g_leastSums : Int32) (g_leastPart : Int32) (g_now : Nat → Int32) (g_p2 : Nat → Int32) (q1 : Int32) (r0 : Int32) (v_p2 : Nat → Int32) (hf : fX8_lists q1 n_p2 g_now g_p2 = some ((r0, v_p2))) : CtI l yX8_lists wsX8_lists rmX8_lists D (tyz cI cL cC cZ) [.ref a_this, .int q1, .ref a_p2] [(a_this, .inr (8, [.int g_length, .ref a_text, .ref a_now, .ref a_before, .int g_undoMany, .ref a_read, .int g_spot, .ref a_first, .ref a_second, .ref a_sums, .ref a_other, .int g_step, .int g_coverMany, .ref a_grid, .ref a_order, .int g_leastSums, .int g_leastPart])), (a_now, .inl (cZ, 164, .inl g_now)), (a_p2, .inl (cI, n_p2, .inl g_p2))] [(a_this, .inr (8, [.int g_length, .ref a_text, .ref a_now, .ref a_before, .int g_undoMany, .ref a_read, .int g_spot, .ref a_first, .ref a_second, .ref a_sums, .ref a_other, .int g_step, .int g_coverMany, .ref a_grid, .ref a_order, .int g_leastSums, .int g_leastPart])), (a_now, .inl (cZ, 164, .inl g_now)), (a_p2, .inl (cI, n_p2, .inl v_p2))] r0 := by
  refine CtI.make (cc := cX8_lists) (maxL := 5) (ty := .int) (by decide) rfl (Nat.le_of_ble_eq_true rfl) ?_
  intro p e s m below meth c A ls C0 hN hA hP hD hl
  obtain ⟨hx, hb, hr, hml, hown, hts, hlk⟩ := id C0
  have hown : s.vm.findClass RX8 = some m.cls := hown
  have hS : va_S A s.heap s.heap [] := va_S.rf
  have hP : va_P D vwCl [(a_this, .inr (8, [.int g_length, .ref a_text, .ref a_now, .ref a_before, .int g_undoMany, .ref a_read, .int g_spot, .ref a_first, .ref a_second, .ref a_sums, .ref a_other, .int g_step, .int g_coverMany, .ref a_grid, .ref a_order, .int g_leastSums, .int g_leastPart])), (a_now, .inl (cZ, 164, .inl g_now)), (a_p2, .inl (cI, n_p2, .inl g_p2))] s.heap := hP
  have hD : va_D A [(a_this, .inr (8, [.int g_length, .ref a_text, .ref a_now, .ref a_before, .int g_undoMany, .ref a_read, .int g_spot, .ref a_first, .ref a_second, .ref a_sums, .ref a_other, .int g_step, .int g_coverMany, .ref a_grid, .ref a_order, .int g_leastSums, .int g_leastPart])), (a_now, .inl (cZ, 164, .inl g_now)), (a_p2, .inl (cI, n_p2, .inl g_p2))] := hD
  have hl : lv_has ls 5 [(0, .ref a_this), (1, .int q1), (2, .ref a_p2)] := hl
  have z1 : ∀ w ∈ u_ws RX8 TX8 17, w ∈ wsX8_lists := by decide +kernel
  have z2 := hts (.fieldLink RX8 13 "LittleSumsModel" "now" "[Z") (by decide +kernel)
  have w5 : ∀ (x1 : Int32) (g_now : Nat → Int32) (x3 : Int32) (x4 : Int32) (g_p2 : Nat → Int32) (t : Int32 × (Nat → Int32)) (H : Heap) (locs : List Loc) (ls : Array Slot), run (sX8_lists_5 x1 g_now n_p2) ((x3, x4, g_p2)) = some t → (fun z => z = (r0, v_p2)) t → va_P D vwCl [(a_this, .inr (8, [.int g_length, .ref a_text, .ref a_now, .ref a_before, .int g_undoMany, .ref a_read, .int g_spot, .ref a_first, .ref a_second, .ref a_sums, .ref a_other, .int g_step, .int g_coverMany, .ref a_grid, .ref a_order, .int g_leastSums, .int g_leastPart])), (a_now, .inl (cZ, 164, .inl g_now)), (a_p2, .inl (cI, n_p2, .inl g_p2))] H → va_D A [(a_this, .inr (8, [.int g_length, .ref a_text, .ref a_now, .ref a_before, .int g_undoMany, .ref a_read, .int g_spot, .ref a_first, .ref a_second, .ref a_sums, .ref a_other, .int g_step, .int g_coverMany, .ref a_grid, .ref a_order, .int g_leastSums, .int g_leastPart])), (a_now, .inl (cZ, 164, .inl g_now)), (a_p2, .inl (cI, n_p2, .inl g_p2))] → va_S A s.heap H locs → lv_has ls 5 [(0, .ref a_this), (1, .int x1), (2, .ref a_p2), (3, .int x3), (4, .int x4)] → W p l e rmX8_lists s m ([.ref a_this, .int q1, .ref a_p2] : List Value).toArray below meth c H locs 0 0 (MQ below (cQi D r0 A [(a_this, .inr (8, [.int g_length, .ref a_text, .ref a_now, .ref a_before, .int g_undoMany, .ref a_read, .int g_spot, .ref a_first, .ref a_second, .ref a_sums, .ref a_other, .int g_step, .int g_coverMany, .ref a_grid, .ref a_order, .int g_leastSums, .int g_leastPart])), (a_now, .inl (cZ, 164, .inl g_now)), (a_p2, .inl (cI, n_p2, .inl v_p2))]) ([.ref a_this, .int q1, .ref a_p2] : List Value).toArray s 0 0 A) (F0 m 5 ls []) := by
    intro x1 g_now
    obtain ⟨F5, eF5⟩ : ∃ F : (Int32 × Int32 × (Nat → Int32)) → Prop, F = fun q => ∀ (H : Heap) (locs : List Loc) (ls : Array Slot), va_P D vwCl [(a_this, .inr (8, [.int g_length, .ref a_text, .ref a_now, .ref a_before, .int g_undoMany, .ref a_read, .int g_spot, .ref a_first, .ref a_second, .ref a_sums, .ref a_other, .int g_step, .int g_coverMany, .ref a_grid, .ref a_order, .int g_leastSums, .int g_leastPart])), (a_now, .inl (cZ, 164, .inl g_now)), (a_p2, .inl (cI, n_p2, .inl q.2.2))] H → va_D A [(a_this, .inr (8, [.int g_length, .ref a_text, .ref a_now, .ref a_before, .int g_undoMany, .ref a_read, .int g_spot, .ref a_first, .ref a_second, .ref a_sums, .ref a_other, .int g_step, .int g_coverMany, .ref a_grid, .ref a_order, .int g_leastSums, .int g_leastPart])), (a_now, .inl (cZ, 164, .inl g_now)), (a_p2, .inl (cI, n_p2, .inl q.2.2))] → va_S A s.heap H locs → lv_has ls 5 [(0, .ref a_this), (1, .int x1), (2, .ref a_p2), (3, .int q.1), (4, .int q.2.1)] → W p l e rmX8_lists s m ([.ref a_this, .int q1, .ref a_p2] : List Value).toArray below meth c H locs 0 0 (MQ below (cQi D r0 A [(a_this, .inr (8, [.int g_length, .ref a_text, .ref a_now, .ref a_before, .int g_undoMany, .ref a_read, .int g_spot, .ref a_first, .ref a_second, .ref a_sums, .ref a_other, .int g_step, .int g_coverMany, .ref a_grid, .ref a_order, .int g_leastSums, .int g_leastPart])), (a_now, .inl (cZ, 164, .inl g_now)), (a_p2, .inl (cI, n_p2, .inl v_p2))]) ([.ref a_this, .int q1, .ref a_p2] : List Value).toArray s 0 0 A) (F0 m 5 ls []) := ⟨_, rfl⟩
    have key : ∀ (q : Int32 × Int32 × (Nat → Int32)) (t : Int32 × (Nat → Int32)), run (sX8_lists_5 x1 g_now n_p2) q = some t → (fun z => z = (r0, v_p2)) t → F5 q := by
      refine loop_rule (sX8_lists_5 x1 g_now n_p2) F5 (fun z => z = (r0, v_p2)) ?_
      intro q t hf hF
      have hF : (Sum.elim F5 (fun z => z = (r0, v_p2))) t := hF
      have w35 : ∀ (x3 : Int32) (x4 : Int32) (g_p2 : Nat → Int32) (t : (Int32 × Int32 × (Nat → Int32)) ⊕ (Int32 × (Nat → Int32))) (H : Heap) (locs : List Loc) (ls : Array Slot), bX8_lists_35 n_p2 x1 x3 x4 g_now g_p2 = some t → (Sum.elim F5 (fun z => z = (r0, v_p2))) t → va_P D vwCl [(a_this, .inr (8, [.int g_length, .ref a_text, .ref a_now, .ref a_before, .int g_undoMany, .ref a_read, .int g_spot, .ref a_first, .ref a_second, .ref a_sums, .ref a_other, .int g_step, .int g_coverMany, .ref a_grid, .ref a_order, .int g_leastSums, .int g_leastPart])), (a_now, .inl (cZ, 164, .inl g_now)), (a_p2, .inl (cI, n_p2, .inl g_p2))] H → va_D A [(a_this, .inr (8, [.int g_length, .ref a_text, .ref a_now, .ref a_before, .int g_undoMany, .ref a_read, .int g_spot, .ref a_first, .ref a_second, .ref a_sums, .ref a_other, .int g_step, .int g_coverMany, .ref a_grid, .ref a_order, .int g_leastSums, .int g_leastPart])), (a_now, .inl (cZ, 164, .inl g_now)), (a_p2, .inl (cI, n_p2, .inl g_p2))] → va_S A s.heap H locs → lv_has ls 5 [(0, .ref a_this), (1, .int x1), (2, .ref a_p2), (3, .int x3), (4, .int x4)] → W p l e rmX8_lists s m ([.ref a_this, .int q1, .ref a_p2] : List Value).toArray below meth c H locs 0 0 (MQ below (cQi D r0 A [(a_this, .inr (8, [.int g_length, .ref a_text, .ref a_now, .ref a_before, .int g_undoMany, .ref a_read, .int g_spot, .ref a_first, .ref a_second, .ref a_sums, .ref a_other, .int g_step, .int g_coverMany, .ref a_grid, .ref a_order, .int g_leastSums, .int g_leastPart])), (a_now, .inl (cZ, 164, .inl g_now)), (a_p2, .inl (cI, n_p2, .inl v_p2))]) ([.ref a_this, .int q1, .ref a_p2] : List Value).toArray s 0 0 A) (F0 m 35 ls []) := by
        intro x3 x4 g_p2 t H locs ls hf hF hP hD hS hl
        unfold bX8_lists_35 at hf
        obtain ⟨y1, ey1⟩ : ∃ z : Int32, z = x4 + (1 : Int32) := ⟨_, rfl⟩
        have hf := lt_some hf y1 ey1
        refine lv_iinc (v := y1) (lv' := [(4, .int y1), (0, .ref a_this), (1, .int x1), (2, .ref a_p2), (3, .int x3)]) hx hb dX8_lists_35 hl (k := 4) rfl (by rw [ey1]; rfl) (by decide) rfl (fun ls hl => ?_)
        refine lv_goto (tgt := 5) hx hb dX8_lists_38 (by decide) ?_
        cases hf
        exact ((congrFun eF5 _).mp hF) H locs ls hP hD hS (lv_sub hl [1, 2, 3, 4, 0] rfl)
      rw [eF5]
      obtain ⟨x3, x4, g_p2⟩ := q
      intro H locs ls hP hD hS hl
      have hP : va_P D vwCl [(a_this, .inr (8, [.int g_length, .ref a_text, .ref a_now, .ref a_before, .int g_undoMany, .ref a_read, .int g_spot, .ref a_first, .ref a_second, .ref a_sums, .ref a_other, .int g_step, .int g_coverMany, .ref a_grid, .ref a_order, .int g_leastSums, .int g_leastPart])), (a_now, .inl (cZ, 164, .inl g_now)), (a_p2, .inl (cI, n_p2, .inl g_p2))] H := hP
      have hD : va_D A [(a_this, .inr (8, [.int g_length, .ref a_text, .ref a_now, .ref a_before, .int g_undoMany, .ref a_read, .int g_spot, .ref a_first, .ref a_second, .ref a_sums, .ref a_other, .int g_step, .int g_coverMany, .ref a_grid, .ref a_order, .int g_leastSums, .int g_leastPart])), (a_now, .inl (cZ, 164, .inl g_now)), (a_p2, .inl (cI, n_p2, .inl g_p2))] := hD
      have hl : lv_has ls 5 [(0, .ref a_this), (1, .int x1), (2, .ref a_p2), (3, .int x3), (4, .int x4)] := hl
      have hf : bX8_lists_5 n_p2 x1 g_now x3 x4 g_p2 = some t := hf
      unfold bX8_lists_5 at hf
      refine lv_iload hx hb dX8_lists_5 (lv_at hl 4 rfl) ?_
      refine lv_bipush (v := 41) hx hb dX8_lists_7 (by decide) ?_
      refine lv_icmp_ge (tgt := 41) hx hb dX8_lists_9 (by decide) (fun c2 => ?_) (fun c2 => ?_)
      · have hf := br_pos c2 hf
        refine lv_iload_n hx hb dX8_lists_41 rfl (lv_at hl 3 rfl) ?_
        cases hf
        have hE : (x3, g_p2) = (r0, v_p2) := hF
        simp only [Prod.mk.injEq] at hE
        obtain ⟨rfl, rfl⟩ := hE
        exact rtI hx hb hr hlk hP hD hS dX8_lists_42
      · have hf := br_neg c2 hf
        refine lv_aload_n hx hb dX8_lists_12 rfl (lv_at hl 0 rfl) ?_
        refine va_get (D := D) (ci := 8) (v := .ref a_now) (C := RX8) (T := TX8) (N := 17) hx hb hts z1 hown hN.1 hP 0 rfl rfl 2 (by decide) z2 (fun _ h9 => h9) rfl dX8_lists_13 ?_
        refine lv_bipush (v := 41) hx hb dX8_lists_16 (by decide) ?_
        refine lv_iload_n hx hb dX8_lists_18 rfl (lv_at hl 1 rfl) ?_
        refine lv_imul hx hb dX8_lists_19 ?_
        refine lv_iload hx hb dX8_lists_20 (lv_at hl 4 rfl) ?_
        refine lv_iadd hx hb dX8_lists_22 ?_
        obtain ⟨c3, hf⟩ := gd_some hf
        refine va_zald hx hb hN.1 hP 1 3 rfl rfl (ix_in c3) dX8_lists_23 ?_
        refine lv_if_eq (tgt := 35) hx hb dX8_lists_24 (by decide) (fun c4 => ?_) (fun c4 => ?_)
        · have hf := br_pos c4 hf
          exact w35 x3 x4 g_p2 _ H locs ls hf hF hP hD hS (lv_sub hl [0, 1, 2, 3, 4] rfl)
        · have hf := br_neg c4 hf
          refine lv_aload_n hx hb dX8_lists_27 rfl (lv_at hl 2 rfl) ?_
          refine lv_iload_n hx hb dX8_lists_28 rfl (lv_at hl 3 rfl) ?_
          refine lv_iload hx hb dX8_lists_29 (lv_at hl 4 rfl) ?_
          obtain ⟨c5, hf⟩ := gd_some hf
          refine va_iast hx hb hN.1 hP hD hS 2 0 rfl rfl (ix_in c5) dX8_lists_31 (fun H locs hP hD hS => ?_)
          obtain ⟨y6, ey6⟩ : ∃ z, z = upd g_p2 x3.toNatClampNeg x4 := ⟨_, rfl⟩
          have hf := lt_some hf y6 ey6
          have hP : va_P D vwCl [(a_this, .inr (8, [.int g_length, .ref a_text, .ref a_now, .ref a_before, .int g_undoMany, .ref a_read, .int g_spot, .ref a_first, .ref a_second, .ref a_sums, .ref a_other, .int g_step, .int g_coverMany, .ref a_grid, .ref a_order, .int g_leastSums, .int g_leastPart])), (a_now, .inl (cZ, 164, .inl g_now)), (a_p2, .inl (cI, n_p2, .inl y6))] H := by rw [ey6]; exact hP
          have hD : va_D A [(a_this, .inr (8, [.int g_length, .ref a_text, .ref a_now, .ref a_before, .int g_undoMany, .ref a_read, .int g_spot, .ref a_first, .ref a_second, .ref a_sums, .ref a_other, .int g_step, .int g_coverMany, .ref a_grid, .ref a_order, .int g_leastSums, .int g_leastPart])), (a_now, .inl (cZ, 164, .inl g_now)), (a_p2, .inl (cI, n_p2, .inl y6))] := by rw [ey6]; exact hD
          obtain ⟨y7, ey7⟩ : ∃ z : Int32, z = x3 + (1 : Int32) := ⟨_, rfl⟩
          have hf := lt_some hf y7 ey7
          refine lv_iinc (v := y7) (lv' := [(3, .int y7), (0, .ref a_this), (1, .int x1), (2, .ref a_p2), (4, .int x4)]) hx hb dX8_lists_32 hl (k := 3) rfl (by rw [ey7]; rfl) (by decide) rfl (fun ls hl => ?_)
          exact w35 y7 x4 y6 _ H locs ls hf hF hP hD hS (lv_sub hl [1, 2, 3, 0, 4] rfl)
    intro x3 x4 g_p2 t H locs ls hf hF hP hD hS hl
    exact ((congrFun eF5 _).mp (key ((x3, x4, g_p2)) t hf hF)) H locs ls hP hD hS hl
  unfold fX8_lists at hf
  obtain ⟨H, eH⟩ : ∃ z, z = s.heap := ⟨_, rfl⟩
  obtain ⟨locs, eL⟩ : ∃ z : List Loc, z = [] := ⟨_, rfl⟩
  have hP : va_P D vwCl [(a_this, .inr (8, [.int g_length, .ref a_text, .ref a_now, .ref a_before, .int g_undoMany, .ref a_read, .int g_spot, .ref a_first, .ref a_second, .ref a_sums, .ref a_other, .int g_step, .int g_coverMany, .ref a_grid, .ref a_order, .int g_leastSums, .int g_leastPart])), (a_now, .inl (cZ, 164, .inl g_now)), (a_p2, .inl (cI, n_p2, .inl g_p2))] H := by rw [eH]; exact hP
  have hS : va_S A s.heap H locs := by rw [eH, eL]; exact hS
  suffices hG : W p l e rmX8_lists s m ([.ref a_this, .int q1, .ref a_p2] : List Value).toArray below meth c H locs 0 0 (MQ below (cQi D r0 A [(a_this, .inr (8, [.int g_length, .ref a_text, .ref a_now, .ref a_before, .int g_undoMany, .ref a_read, .int g_spot, .ref a_first, .ref a_second, .ref a_sums, .ref a_other, .int g_step, .int g_coverMany, .ref a_grid, .ref a_order, .int g_leastSums, .int g_leastPart])), (a_now, .inl (cZ, 164, .inl g_now)), (a_p2, .inl (cI, n_p2, .inl v_p2))]) ([.ref a_this, .int q1, .ref a_p2] : List Value).toArray s 0 0 A) (F0 m 0 ls []) by rw [eH, eL] at hG; exact hG
  refine lv_iconst (v := 0) hx hb dX8_lists_0 (by decide) ?_
  refine lv_istore_n (lv' := [(3, .int (0 : Int32)), (0, .ref a_this), (1, .int q1), (2, .ref a_p2)]) hx hb dX8_lists_1 rfl hl (by decide) rfl (fun ls hl => ?_)
  refine lv_iconst (v := 0) hx hb dX8_lists_2 (by decide) ?_
  refine lv_istore (lv' := [(4, .int (0 : Int32)), (3, .int (0 : Int32)), (0, .ref a_this), (1, .int q1), (2, .ref a_p2)]) hx hb dX8_lists_3 hl (by decide) rfl (fun ls hl => ?_)
  exact w5 q1 g_now (0 : Int32) (0 : Int32) g_p2 (r0, v_p2) H locs ls hf rfl hP hD hS (lv_sub hl [2, 3, 4, 1, 0] rfl)
abbrev rmX8_ones : Room := { frames := 0, cells := 0, slots := 0, locals := 0 }
noncomputable def bX8_ones_23 (n_p1 : Nat) (x3 : Int32) (k0 : Int32) (k1 : Int32) (g_p1 : Nat → Int32) : Option ((Int32 × Int32) ⊕ (Int32)) := lt_ (k0 + k1) (fun y1 => lt_ (x3 + (1 : Int32)) (fun y2 => some (Sum.inl ((y1, y2)))))
noncomputable def bX8_ones_4 (n_p1 : Nat) (g_p1 : Nat → Int32) (x2 : Int32) (x3 : Int32) : Option ((Int32 × Int32) ⊕ (Int32)) := br ((241 : Int32) ≤ x3) (some (Sum.inr (x2))) (gd (¬ x3 < 0 ∧ x3.toNatClampNeg < n_p1) (br ((g_p1 x3.toNatClampNeg) = 0) (bX8_ones_23 n_p1 x3 x2 (0 : Int32) g_p1) (bX8_ones_23 n_p1 x3 x2 (1 : Int32) g_p1)))
noncomputable def sX8_ones_4 (g_p1 : Nat → Int32) (n_p1 : Nat) : (Int32 × Int32) → Option ((Int32 × Int32) ⊕ (Int32)) := fun q => bX8_ones_4 n_p1 g_p1 q.1 q.2
noncomputable def fX8_ones (n_p1 : Nat) (g_p1 : Nat → Int32) : Option (Int32) := run (sX8_ones_4 g_p1 n_p1) (((0 : Int32), (0 : Int32)))
set_option maxHeartbeats 4000000 in
set_option maxRecDepth 100000 in
theorem cX8_ones_ct (l : Launch) (D : va_G) (cI cL cC cZ : ClassId) (a_this a_p1 : Nat) (n_p1 : Nat) (g_p1 : Nat → Int32) (r0 : Int32) (hf : fX8_ones n_p1 g_p1 = some r0) : CtI l yX8_ones wsX8_ones rmX8_ones D (tyz cI cL cC cZ) [.ref a_this, .ref a_p1] [(a_p1, .inl (cZ, n_p1, .inl g_p1))] [(a_p1, .inl (cZ, n_p1, .inl g_p1))] r0 := by
  refine CtI.make (cc := cX8_ones) (maxL := 4) (ty := .int) (by decide) rfl (Nat.le_of_ble_eq_true rfl) ?_
  intro p e s m below meth c A ls C0 hN hA hP hD hl
  obtain ⟨hx, hb, hr, hml, hown, hts, hlk⟩ := id C0
  have hown : s.vm.findClass RX8 = some m.cls := hown
  have hS : va_S A s.heap s.heap [] := va_S.rf
  have hP : va_P D vwCl [(a_p1, .inl (cZ, n_p1, .inl g_p1))] s.heap := hP
  have hD : va_D A [(a_p1, .inl (cZ, n_p1, .inl g_p1))] := hD
  have hl : lv_has ls 4 [(0, .ref a_this), (1, .ref a_p1)] := hl
  have w4 : ∀ (g_p1 : Nat → Int32) (x2 : Int32) (x3 : Int32) (t : Int32) (H : Heap) (locs : List Loc) (ls : Array Slot), run (sX8_ones_4 g_p1 n_p1) ((x2, x3)) = some t → (fun z => z = r0) t → va_P D vwCl [(a_p1, .inl (cZ, n_p1, .inl g_p1))] H → va_D A [(a_p1, .inl (cZ, n_p1, .inl g_p1))] → va_S A s.heap H locs → lv_has ls 4 [(1, .ref a_p1), (2, .int x2), (3, .int x3)] → W p l e rmX8_ones s m ([.ref a_this, .ref a_p1] : List Value).toArray below meth c H locs 0 0 (MQ below (cQi D r0 A [(a_p1, .inl (cZ, n_p1, .inl g_p1))]) ([.ref a_this, .ref a_p1] : List Value).toArray s 0 0 A) (F0 m 4 ls []) := by
    intro g_p1
    obtain ⟨F4, eF4⟩ : ∃ F : (Int32 × Int32) → Prop, F = fun q => ∀ (H : Heap) (locs : List Loc) (ls : Array Slot), va_P D vwCl [(a_p1, .inl (cZ, n_p1, .inl g_p1))] H → va_D A [(a_p1, .inl (cZ, n_p1, .inl g_p1))] → va_S A s.heap H locs → lv_has ls 4 [(1, .ref a_p1), (2, .int q.1), (3, .int q.2)] → W p l e rmX8_ones s m ([.ref a_this, .ref a_p1] : List Value).toArray below meth c H locs 0 0 (MQ below (cQi D r0 A [(a_p1, .inl (cZ, n_p1, .inl g_p1))]) ([.ref a_this, .ref a_p1] : List Value).toArray s 0 0 A) (F0 m 4 ls []) := ⟨_, rfl⟩
    have key : ∀ (q : Int32 × Int32) (t : Int32), run (sX8_ones_4 g_p1 n_p1) q = some t → (fun z => z = r0) t → F4 q := by
      refine loop_rule (sX8_ones_4 g_p1 n_p1) F4 (fun z => z = r0) ?_
      intro q t hf hF
      have hF : (Sum.elim F4 (fun z => z = r0)) t := hF
      have w23 : ∀ (x3 : Int32) (k0 : Int32) (k1 : Int32) (t : (Int32 × Int32) ⊕ (Int32)) (H : Heap) (locs : List Loc) (ls : Array Slot), bX8_ones_23 n_p1 x3 k0 k1 g_p1 = some t → (Sum.elim F4 (fun z => z = r0)) t → va_P D vwCl [(a_p1, .inl (cZ, n_p1, .inl g_p1))] H → va_D A [(a_p1, .inl (cZ, n_p1, .inl g_p1))] → va_S A s.heap H locs → lv_has ls 4 [(1, .ref a_p1), (3, .int x3)] → W p l e rmX8_ones s m ([.ref a_this, .ref a_p1] : List Value).toArray below meth c H locs 0 0 (MQ below (cQi D r0 A [(a_p1, .inl (cZ, n_p1, .inl g_p1))]) ([.ref a_this, .ref a_p1] : List Value).toArray s 0 0 A) (F0 m 23 ls [.int k1, .int k0]) := by
        intro x3 k0 k1 t H locs ls hf hF hP hD hS hl
        unfold bX8_ones_23 at hf
        refine lv_iadd hx hb dX8_ones_23 ?_
        refine lv_topi (fun y1 ey1 => ?_)
        have hf := lt_some hf y1 ey1
        refine lv_istore_n (lv' := [(2, .int y1), (1, .ref a_p1), (3, .int x3)]) hx hb dX8_ones_24 rfl hl (by decide) rfl (fun ls hl => ?_)
        obtain ⟨y2, ey2⟩ : ∃ z : Int32, z = x3 + (1 : Int32) := ⟨_, rfl⟩
        have hf := lt_some hf y2 ey2
        refine lv_iinc (v := y2) (lv' := [(3, .int y2), (2, .int y1), (1, .ref a_p1)]) hx hb dX8_ones_25 hl (k := 2) rfl (by rw [ey2]; rfl) (by decide) rfl (fun ls hl => ?_)
        refine lv_goto (tgt := 4) hx hb dX8_ones_28 (by decide) ?_
        cases hf
        exact ((congrFun eF4 _).mp hF) H locs ls hP hD hS (lv_sub hl [2, 1, 0] rfl)
      rw [eF4]
      obtain ⟨x2, x3⟩ := q
      intro H locs ls hP hD hS hl
      have hP : va_P D vwCl [(a_p1, .inl (cZ, n_p1, .inl g_p1))] H := hP
      have hD : va_D A [(a_p1, .inl (cZ, n_p1, .inl g_p1))] := hD
      have hl : lv_has ls 4 [(1, .ref a_p1), (2, .int x2), (3, .int x3)] := hl
      have hf : bX8_ones_4 n_p1 g_p1 x2 x3 = some t := hf
      unfold bX8_ones_4 at hf
      refine lv_iload_n hx hb dX8_ones_4 rfl (lv_at hl 2 rfl) ?_
      refine lv_sipush (v := 241) hx hb dX8_ones_5 (by decide) ?_
      refine lv_icmp_ge (tgt := 31) hx hb dX8_ones_8 (by decide) (fun c3 => ?_) (fun c3 => ?_)
      · have hf := br_pos c3 hf
        refine lv_iload_n hx hb dX8_ones_31 rfl (lv_at hl 1 rfl) ?_
        cases hf
        have hE : x2 = r0 := hF
        subst hE
        exact rtI hx hb hr hlk hP hD hS dX8_ones_32
      · have hf := br_neg c3 hf
        refine lv_iload_n hx hb dX8_ones_11 rfl (lv_at hl 1 rfl) ?_
        refine lv_aload_n hx hb dX8_ones_12 rfl (lv_at hl 0 rfl) ?_
        refine lv_iload_n hx hb dX8_ones_13 rfl (lv_at hl 2 rfl) ?_
        obtain ⟨c4, hf⟩ := gd_some hf
        refine va_zald hx hb hN.1 hP 0 3 rfl rfl (ix_in c4) dX8_ones_14 ?_
        refine lv_if_eq (tgt := 22) hx hb dX8_ones_15 (by decide) (fun c5 => ?_) (fun c5 => ?_)
        · have hf := br_pos c5 hf
          refine lv_iconst (v := 0) hx hb dX8_ones_22 (by decide) ?_
          exact w23 x3 x2 (0 : Int32) _ H locs ls hf hF hP hD hS (lv_sub hl [0, 2] rfl)
        · have hf := br_neg c5 hf
          refine lv_iconst (v := 1) hx hb dX8_ones_18 (by decide) ?_
          refine lv_goto (tgt := 23) hx hb dX8_ones_19 (by decide) ?_
          exact w23 x3 x2 (1 : Int32) _ H locs ls hf hF hP hD hS (lv_sub hl [0, 2] rfl)
    intro x2 x3 t H locs ls hf hF hP hD hS hl
    exact ((congrFun eF4 _).mp (key ((x2, x3)) t hf hF)) H locs ls hP hD hS hl
  unfold fX8_ones at hf
  obtain ⟨H, eH⟩ : ∃ z, z = s.heap := ⟨_, rfl⟩
  obtain ⟨locs, eL⟩ : ∃ z : List Loc, z = [] := ⟨_, rfl⟩
  have hP : va_P D vwCl [(a_p1, .inl (cZ, n_p1, .inl g_p1))] H := by rw [eH]; exact hP
  have hS : va_S A s.heap H locs := by rw [eH, eL]; exact hS
  suffices hG : W p l e rmX8_ones s m ([.ref a_this, .ref a_p1] : List Value).toArray below meth c H locs 0 0 (MQ below (cQi D r0 A [(a_p1, .inl (cZ, n_p1, .inl g_p1))]) ([.ref a_this, .ref a_p1] : List Value).toArray s 0 0 A) (F0 m 0 ls []) by rw [eH, eL] at hG; exact hG
  refine lv_iconst (v := 0) hx hb dX8_ones_0 (by decide) ?_
  refine lv_istore_n (lv' := [(2, .int (0 : Int32)), (0, .ref a_this), (1, .ref a_p1)]) hx hb dX8_ones_1 rfl hl (by decide) rfl (fun ls hl => ?_)
  refine lv_iconst (v := 0) hx hb dX8_ones_2 (by decide) ?_
  refine lv_istore_n (lv' := [(3, .int (0 : Int32)), (2, .int (0 : Int32)), (0, .ref a_this), (1, .ref a_p1)]) hx hb dX8_ones_3 rfl hl (by decide) rfl (fun ls hl => ?_)
  exact w4 g_p1 (0 : Int32) (0 : Int32) r0 H locs ls hf rfl hP hD hS (lv_sub hl [3, 1, 0] rfl)
abbrev rmX8_adds : Room := { frames := 1, cells := 0, slots := 0, locals := 24 }
noncomputable def bX8_adds_111 (x3 : Int32) (x4 : Int32) (x5 : Int32) (x6 : Int32) (x7 : Int32) (k1 : Int32) (g_now : Nat → Int32) (g_first : Nat → Int32) (g_second : Nat → Int32) (g_sums : Nat → Int32) : Option ((Int32 × (Nat → Int32)) ⊕ ((Int32 × (Nat → Int32)) ⊕ (Int32 × (Nat → Int32) × (Nat → Int32) × (Nat → Int32)))) := gd (¬ k1 < 0 ∧ k1.toNatClampNeg < 241) (lt_ (upd g_sums k1.toNatClampNeg (vp_nar .boolean (1 : Int32))) (fun y2 => lt_ (x7 + (1 : Int32)) (fun y3 => some (Sum.inl ((y3, y2))))))
noncomputable def bX8_adds_60 (x3 : Int32) (x4 : Int32) (x5 : Int32) (x6 : Int32) (g_now : Nat → Int32) (g_first : Nat → Int32) (g_second : Nat → Int32) (x7 : Int32) (g_sums : Nat → Int32) : Option ((Int32 × (Nat → Int32)) ⊕ ((Int32 × (Nat → Int32)) ⊕ (Int32 × (Nat → Int32) × (Nat → Int32) × (Nat → Int32)))) := br (x5 ≤ x7) (lt_ (x6 + (1 : Int32)) (fun y5 => some (Sum.inr (Sum.inl ((y5, g_sums)))))) (br (x3 ≤ 0) (gd (¬ x6 < 0 ∧ x6.toNatClampNeg < 41) (gd (¬ x7 < 0 ∧ x7.toNatClampNeg < 41) (bX8_adds_111 x3 x4 x5 x6 x7 (((g_first x6.toNatClampNeg) - (g_second x7.toNatClampNeg)) + (40 : Int32)) g_now g_first g_second g_sums))) (gd (¬ x6 < 0 ∧ x6.toNatClampNeg < 41) (gd (¬ x7 < 0 ∧ x7.toNatClampNeg < 41) (bX8_adds_111 x3 x4 x5 x6 x7 ((g_first x6.toNatClampNeg) + (g_second x7.toNatClampNeg)) g_now g_first g_second g_sums))))
noncomputable def sX8_adds_60 (x3 : Int32) (x4 : Int32) (x5 : Int32) (x6 : Int32) (g_now : Nat → Int32) (g_first : Nat → Int32) (g_second : Nat → Int32) : (Int32 × (Nat → Int32)) → Option ((Int32 × (Nat → Int32)) ⊕ ((Int32 × (Nat → Int32)) ⊕ (Int32 × (Nat → Int32) × (Nat → Int32) × (Nat → Int32)))) := fun q => bX8_adds_60 x3 x4 x5 x6 g_now g_first g_second q.1 q.2
noncomputable def bX8_adds_50 (x3 : Int32) (x4 : Int32) (x5 : Int32) (g_now : Nat → Int32) (g_first : Nat → Int32) (g_second : Nat → Int32) (x6 : Int32) (g_sums : Nat → Int32) : Option ((Int32 × (Nat → Int32)) ⊕ (Int32 × (Nat → Int32) × (Nat → Int32) × (Nat → Int32))) := br (x4 ≤ x6) (bd (fX8_ones 241 g_sums) (fun u12 => some (Sum.inr ((u12, g_first, g_second, g_sums))))) (run (sX8_adds_60 x3 x4 x5 x6 g_now g_first g_second) (((0 : Int32), g_sums)))
noncomputable def sX8_adds_50 (x3 : Int32) (x4 : Int32) (x5 : Int32) (g_now : Nat → Int32) (g_first : Nat → Int32) (g_second : Nat → Int32) : (Int32 × (Nat → Int32)) → Option ((Int32 × (Nat → Int32)) ⊕ (Int32 × (Nat → Int32) × (Nat → Int32) × (Nat → Int32))) := fun q => bX8_adds_50 x3 x4 x5 g_now g_first g_second q.1 q.2
noncomputable def bX8_adds_25 (x3 : Int32) (x4 : Int32) (x5 : Int32) (g_now : Nat → Int32) (g_first : Nat → Int32) (g_second : Nat → Int32) (x6 : Int32) (g_sums : Nat → Int32) : Option ((Int32 × (Nat → Int32)) ⊕ (Int32 × (Nat → Int32) × (Nat → Int32) × (Nat → Int32))) := br ((241 : Int32) ≤ x6) (ml (run (sX8_adds_50 x3 x4 x5 g_now g_first g_second) (((0 : Int32), g_sums)))) (gd (¬ x6 < 0 ∧ x6.toNatClampNeg < 241) (lt_ (upd g_sums x6.toNatClampNeg (vp_nar .boolean (0 : Int32))) (fun y16 => lt_ (x6 + (1 : Int32)) (fun y17 => some (Sum.inl ((y17, y16)))))))
noncomputable def sX8_adds_25 (x3 : Int32) (x4 : Int32) (x5 : Int32) (g_now : Nat → Int32) (g_first : Nat → Int32) (g_second : Nat → Int32) : (Int32 × (Nat → Int32)) → Option ((Int32 × (Nat → Int32)) ⊕ (Int32 × (Nat → Int32) × (Nat → Int32) × (Nat → Int32))) := fun q => bX8_adds_25 x3 x4 x5 g_now g_first g_second q.1 q.2
noncomputable def fX8_adds (q1 : Int32) (q2 : Int32) (q3 : Int32) (g_now : Nat → Int32) (g_first : Nat → Int32) (g_second : Nat → Int32) (g_sums : Nat → Int32) : Option (Int32 × (Nat → Int32) × (Nat → Int32) × (Nat → Int32)) := bd (fX8_lists q1 41 g_now g_first) (fun u18 => bd (fX8_lists q2 41 g_now g_second) (fun u19 => run (sX8_adds_25 q3 u18.1 u19.1 g_now u18.2 u19.2) (((0 : Int32), g_sums))))
set_option maxHeartbeats 4000000 in
set_option maxRecDepth 100000 in
theorem cX8_adds_ct (l : Launch) (D : va_G) (cI cL cC cZ : ClassId) (a_this a_text a_now a_before a_read a_first a_second a_sums a_other a_grid a_order : Nat) (g_length : Int32) (g_undoMany : Int32) (g_spot : Int32) (g_step : Int32) (g_coverMany : Int32) (g_leastSums : Int32) (g_leastPart : Int32) (g_now : Nat → Int32) (g_first : Nat → Int32) (g_second : Nat → Int32) (g_sums : Nat → Int32) (q1 : Int32) (q2 : Int32) (q3 : Int32) (r0 : Int32) (v_first : Nat → Int32) (v_second : Nat → Int32) (v_sums : Nat → Int32) (hf : fX8_adds q1 q2 q3 g_now g_first g_second g_sums = some ((r0, v_first, v_second, v_sums))) : CtI l yX8_adds wsX8_adds rmX8_adds D (tyz cI cL cC cZ) [.ref a_this, .int q1, .int q2, .int q3] [(a_this, .inr (8, [.int g_length, .ref a_text, .ref a_now, .ref a_before, .int g_undoMany, .ref a_read, .int g_spot, .ref a_first, .ref a_second, .ref a_sums, .ref a_other, .int g_step, .int g_coverMany, .ref a_grid, .ref a_order, .int g_leastSums, .int g_leastPart])), (a_now, .inl (cZ, 164, .inl g_now)), (a_first, .inl (cI, 41, .inl g_first)), (a_second, .inl (cI, 41, .inl g_second)), (a_sums, .inl (cZ, 241, .inl g_sums))] [(a_this, .inr (8, [.int g_length, .ref a_text, .ref a_now, .ref a_before, .int g_undoMany, .ref a_read, .int g_spot, .ref a_first, .ref a_second, .ref a_sums, .ref a_other, .int g_step, .int g_coverMany, .ref a_grid, .ref a_order, .int g_leastSums, .int g_leastPart])), (a_now, .inl (cZ, 164, .inl g_now)), (a_first, .inl (cI, 41, .inl v_first)), (a_second, .inl (cI, 41, .inl v_second)), (a_sums, .inl (cZ, 241, .inl v_sums))] r0 := by
  refine CtI.make (cc := cX8_adds) (maxL := 8) (ty := .int) (by decide) rfl (Nat.le_of_ble_eq_true rfl) ?_
  intro p e s m below meth c A ls C0 hN hA hP hD hl
  obtain ⟨hx, hb, hr, hml, hown, hts, hlk⟩ := id C0
  have hown : s.vm.findClass RX8 = some m.cls := hown
  have hS : va_S A s.heap s.heap [] := va_S.rf
  have hP : va_P D vwCl [(a_this, .inr (8, [.int g_length, .ref a_text, .ref a_now, .ref a_before, .int g_undoMany, .ref a_read, .int g_spot, .ref a_first, .ref a_second, .ref a_sums, .ref a_other, .int g_step, .int g_coverMany, .ref a_grid, .ref a_order, .int g_leastSums, .int g_leastPart])), (a_now, .inl (cZ, 164, .inl g_now)), (a_first, .inl (cI, 41, .inl g_first)), (a_second, .inl (cI, 41, .inl g_second)), (a_sums, .inl (cZ, 241, .inl g_sums))] s.heap := hP
  have hD : va_D A [(a_this, .inr (8, [.int g_length, .ref a_text, .ref a_now, .ref a_before, .int g_undoMany, .ref a_read, .int g_spot, .ref a_first, .ref a_second, .ref a_sums, .ref a_other, .int g_step, .int g_coverMany, .ref a_grid, .ref a_order, .int g_leastSums, .int g_leastPart])), (a_now, .inl (cZ, 164, .inl g_now)), (a_first, .inl (cI, 41, .inl g_first)), (a_second, .inl (cI, 41, .inl g_second)), (a_sums, .inl (cZ, 241, .inl g_sums))] := hD
  have hl : lv_has ls 8 [(0, .ref a_this), (1, .int q1), (2, .int q2), (3, .int q3)] := hl
  have z1 : ∀ w ∈ u_ws RX8 TX8 17, w ∈ wsX8_adds := by decide +kernel
  have z2 := hts (.fieldLink RX8 29 "LittleSumsModel" "sums" "[Z") (by decide +kernel)
  have z3 := hts (.fieldLink RX8 23 "LittleSumsModel" "first" "[I") (by decide +kernel)
  have z4 := hts (.fieldLink RX8 26 "LittleSumsModel" "second" "[I") (by decide +kernel)
  have z5 := cwV (R := rmX8_adds) (rm := rmX8_ones) (mc := 0) (ms := 0) 1 hts gX8_adds_X8_ones rfl rfl rfl (by decide +kernel) ⟨Nat.le_of_ble_eq_true rfl, Nat.le_of_ble_eq_true rfl⟩
  have z6 := cwV (R := rmX8_adds) (rm := rmX8_lists) (mc := 0) (ms := 0) 2 hts gX8_adds_X8_lists rfl rfl rfl (by decide +kernel) ⟨Nat.le_of_ble_eq_true rfl, Nat.le_of_ble_eq_true rfl⟩
  have w50 : ∀ (x3 : Int32) (x4 : Int32) (x5 : Int32) (g_now : Nat → Int32) (g_first : Nat → Int32) (g_second : Nat → Int32) (x6 : Int32) (g_sums : Nat → Int32) (t : Int32 × (Nat → Int32) × (Nat → Int32) × (Nat → Int32)) (H : Heap) (locs : List Loc) (ls : Array Slot), run (sX8_adds_50 x3 x4 x5 g_now g_first g_second) ((x6, g_sums)) = some t → (fun z => z = (r0, v_first, v_second, v_sums)) t → va_P D vwCl [(a_this, .inr (8, [.int g_length, .ref a_text, .ref a_now, .ref a_before, .int g_undoMany, .ref a_read, .int g_spot, .ref a_first, .ref a_second, .ref a_sums, .ref a_other, .int g_step, .int g_coverMany, .ref a_grid, .ref a_order, .int g_leastSums, .int g_leastPart])), (a_now, .inl (cZ, 164, .inl g_now)), (a_first, .inl (cI, 41, .inl g_first)), (a_second, .inl (cI, 41, .inl g_second)), (a_sums, .inl (cZ, 241, .inl g_sums))] H → va_D A [(a_this, .inr (8, [.int g_length, .ref a_text, .ref a_now, .ref a_before, .int g_undoMany, .ref a_read, .int g_spot, .ref a_first, .ref a_second, .ref a_sums, .ref a_other, .int g_step, .int g_coverMany, .ref a_grid, .ref a_order, .int g_leastSums, .int g_leastPart])), (a_now, .inl (cZ, 164, .inl g_now)), (a_first, .inl (cI, 41, .inl g_first)), (a_second, .inl (cI, 41, .inl g_second)), (a_sums, .inl (cZ, 241, .inl g_sums))] → va_S A s.heap H locs → lv_has ls 8 [(0, .ref a_this), (3, .int x3), (4, .int x4), (5, .int x5), (6, .int x6)] → W p l e rmX8_adds s m ([.ref a_this, .int q1, .int q2, .int q3] : List Value).toArray below meth c H locs 0 0 (MQ below (cQi D r0 A [(a_this, .inr (8, [.int g_length, .ref a_text, .ref a_now, .ref a_before, .int g_undoMany, .ref a_read, .int g_spot, .ref a_first, .ref a_second, .ref a_sums, .ref a_other, .int g_step, .int g_coverMany, .ref a_grid, .ref a_order, .int g_leastSums, .int g_leastPart])), (a_now, .inl (cZ, 164, .inl g_now)), (a_first, .inl (cI, 41, .inl v_first)), (a_second, .inl (cI, 41, .inl v_second)), (a_sums, .inl (cZ, 241, .inl v_sums))]) ([.ref a_this, .int q1, .int q2, .int q3] : List Value).toArray s 0 0 A) (F0 m 50 ls []) := by
    intro x3 x4 x5 g_now g_first g_second
    obtain ⟨F50, eF50⟩ : ∃ F : (Int32 × (Nat → Int32)) → Prop, F = fun q => ∀ (H : Heap) (locs : List Loc) (ls : Array Slot), va_P D vwCl [(a_this, .inr (8, [.int g_length, .ref a_text, .ref a_now, .ref a_before, .int g_undoMany, .ref a_read, .int g_spot, .ref a_first, .ref a_second, .ref a_sums, .ref a_other, .int g_step, .int g_coverMany, .ref a_grid, .ref a_order, .int g_leastSums, .int g_leastPart])), (a_now, .inl (cZ, 164, .inl g_now)), (a_first, .inl (cI, 41, .inl g_first)), (a_second, .inl (cI, 41, .inl g_second)), (a_sums, .inl (cZ, 241, .inl q.2))] H → va_D A [(a_this, .inr (8, [.int g_length, .ref a_text, .ref a_now, .ref a_before, .int g_undoMany, .ref a_read, .int g_spot, .ref a_first, .ref a_second, .ref a_sums, .ref a_other, .int g_step, .int g_coverMany, .ref a_grid, .ref a_order, .int g_leastSums, .int g_leastPart])), (a_now, .inl (cZ, 164, .inl g_now)), (a_first, .inl (cI, 41, .inl g_first)), (a_second, .inl (cI, 41, .inl g_second)), (a_sums, .inl (cZ, 241, .inl q.2))] → va_S A s.heap H locs → lv_has ls 8 [(0, .ref a_this), (3, .int x3), (4, .int x4), (5, .int x5), (6, .int q.1)] → W p l e rmX8_adds s m ([.ref a_this, .int q1, .int q2, .int q3] : List Value).toArray below meth c H locs 0 0 (MQ below (cQi D r0 A [(a_this, .inr (8, [.int g_length, .ref a_text, .ref a_now, .ref a_before, .int g_undoMany, .ref a_read, .int g_spot, .ref a_first, .ref a_second, .ref a_sums, .ref a_other, .int g_step, .int g_coverMany, .ref a_grid, .ref a_order, .int g_leastSums, .int g_leastPart])), (a_now, .inl (cZ, 164, .inl g_now)), (a_first, .inl (cI, 41, .inl v_first)), (a_second, .inl (cI, 41, .inl v_second)), (a_sums, .inl (cZ, 241, .inl v_sums))]) ([.ref a_this, .int q1, .int q2, .int q3] : List Value).toArray s 0 0 A) (F0 m 50 ls []) := ⟨_, rfl⟩
    have key : ∀ (q : Int32 × (Nat → Int32)) (t : Int32 × (Nat → Int32) × (Nat → Int32) × (Nat → Int32)), run (sX8_adds_50 x3 x4 x5 g_now g_first g_second) q = some t → (fun z => z = (r0, v_first, v_second, v_sums)) t → F50 q := by
      refine loop_rule (sX8_adds_50 x3 x4 x5 g_now g_first g_second) F50 (fun z => z = (r0, v_first, v_second, v_sums)) ?_
      intro q t hf hF
      have hF : (Sum.elim F50 (fun z => z = (r0, v_first, v_second, v_sums))) t := hF
      have w60 : ∀ (x6 : Int32) (x7 : Int32) (g_sums : Nat → Int32) (t : (Int32 × (Nat → Int32)) ⊕ (Int32 × (Nat → Int32) × (Nat → Int32) × (Nat → Int32))) (H : Heap) (locs : List Loc) (ls : Array Slot), run (sX8_adds_60 x3 x4 x5 x6 g_now g_first g_second) ((x7, g_sums)) = some t → (Sum.elim F50 (fun z => z = (r0, v_first, v_second, v_sums))) t → va_P D vwCl [(a_this, .inr (8, [.int g_length, .ref a_text, .ref a_now, .ref a_before, .int g_undoMany, .ref a_read, .int g_spot, .ref a_first, .ref a_second, .ref a_sums, .ref a_other, .int g_step, .int g_coverMany, .ref a_grid, .ref a_order, .int g_leastSums, .int g_leastPart])), (a_now, .inl (cZ, 164, .inl g_now)), (a_first, .inl (cI, 41, .inl g_first)), (a_second, .inl (cI, 41, .inl g_second)), (a_sums, .inl (cZ, 241, .inl g_sums))] H → va_D A [(a_this, .inr (8, [.int g_length, .ref a_text, .ref a_now, .ref a_before, .int g_undoMany, .ref a_read, .int g_spot, .ref a_first, .ref a_second, .ref a_sums, .ref a_other, .int g_step, .int g_coverMany, .ref a_grid, .ref a_order, .int g_leastSums, .int g_leastPart])), (a_now, .inl (cZ, 164, .inl g_now)), (a_first, .inl (cI, 41, .inl g_first)), (a_second, .inl (cI, 41, .inl g_second)), (a_sums, .inl (cZ, 241, .inl g_sums))] → va_S A s.heap H locs → lv_has ls 8 [(0, .ref a_this), (3, .int x3), (4, .int x4), (5, .int x5), (6, .int x6), (7, .int x7)] → W p l e rmX8_adds s m ([.ref a_this, .int q1, .int q2, .int q3] : List Value).toArray below meth c H locs 0 0 (MQ below (cQi D r0 A [(a_this, .inr (8, [.int g_length, .ref a_text, .ref a_now, .ref a_before, .int g_undoMany, .ref a_read, .int g_spot, .ref a_first, .ref a_second, .ref a_sums, .ref a_other, .int g_step, .int g_coverMany, .ref a_grid, .ref a_order, .int g_leastSums, .int g_leastPart])), (a_now, .inl (cZ, 164, .inl g_now)), (a_first, .inl (cI, 41, .inl v_first)), (a_second, .inl (cI, 41, .inl v_second)), (a_sums, .inl (cZ, 241, .inl v_sums))]) ([.ref a_this, .int q1, .int q2, .int q3] : List Value).toArray s 0 0 A) (F0 m 60 ls []) := by
        intro x6
        obtain ⟨F60, eF60⟩ : ∃ F : (Int32 × (Nat → Int32)) → Prop, F = fun q => ∀ (H : Heap) (locs : List Loc) (ls : Array Slot), va_P D vwCl [(a_this, .inr (8, [.int g_length, .ref a_text, .ref a_now, .ref a_before, .int g_undoMany, .ref a_read, .int g_spot, .ref a_first, .ref a_second, .ref a_sums, .ref a_other, .int g_step, .int g_coverMany, .ref a_grid, .ref a_order, .int g_leastSums, .int g_leastPart])), (a_now, .inl (cZ, 164, .inl g_now)), (a_first, .inl (cI, 41, .inl g_first)), (a_second, .inl (cI, 41, .inl g_second)), (a_sums, .inl (cZ, 241, .inl q.2))] H → va_D A [(a_this, .inr (8, [.int g_length, .ref a_text, .ref a_now, .ref a_before, .int g_undoMany, .ref a_read, .int g_spot, .ref a_first, .ref a_second, .ref a_sums, .ref a_other, .int g_step, .int g_coverMany, .ref a_grid, .ref a_order, .int g_leastSums, .int g_leastPart])), (a_now, .inl (cZ, 164, .inl g_now)), (a_first, .inl (cI, 41, .inl g_first)), (a_second, .inl (cI, 41, .inl g_second)), (a_sums, .inl (cZ, 241, .inl q.2))] → va_S A s.heap H locs → lv_has ls 8 [(0, .ref a_this), (3, .int x3), (4, .int x4), (5, .int x5), (6, .int x6), (7, .int q.1)] → W p l e rmX8_adds s m ([.ref a_this, .int q1, .int q2, .int q3] : List Value).toArray below meth c H locs 0 0 (MQ below (cQi D r0 A [(a_this, .inr (8, [.int g_length, .ref a_text, .ref a_now, .ref a_before, .int g_undoMany, .ref a_read, .int g_spot, .ref a_first, .ref a_second, .ref a_sums, .ref a_other, .int g_step, .int g_coverMany, .ref a_grid, .ref a_order, .int g_leastSums, .int g_leastPart])), (a_now, .inl (cZ, 164, .inl g_now)), (a_first, .inl (cI, 41, .inl v_first)), (a_second, .inl (cI, 41, .inl v_second)), (a_sums, .inl (cZ, 241, .inl v_sums))]) ([.ref a_this, .int q1, .int q2, .int q3] : List Value).toArray s 0 0 A) (F0 m 60 ls []) := ⟨_, rfl⟩
        have key : ∀ (q : Int32 × (Nat → Int32)) (t : (Int32 × (Nat → Int32)) ⊕ (Int32 × (Nat → Int32) × (Nat → Int32) × (Nat → Int32))), run (sX8_adds_60 x3 x4 x5 x6 g_now g_first g_second) q = some t → (Sum.elim F50 (fun z => z = (r0, v_first, v_second, v_sums))) t → F60 q := by
          refine loop_rule (sX8_adds_60 x3 x4 x5 x6 g_now g_first g_second) F60 (Sum.elim F50 (fun z => z = (r0, v_first, v_second, v_sums))) ?_
          intro q t hf hF
          have hF : (Sum.elim F60 (Sum.elim F50 (fun z => z = (r0, v_first, v_second, v_sums)))) t := hF
          have w111 : ∀ (x7 : Int32) (k1 : Int32) (g_sums : Nat → Int32) (t : (Int32 × (Nat → Int32)) ⊕ ((Int32 × (Nat → Int32)) ⊕ (Int32 × (Nat → Int32) × (Nat → Int32) × (Nat → Int32)))) (H : Heap) (locs : List Loc) (ls : Array Slot), bX8_adds_111 x3 x4 x5 x6 x7 k1 g_now g_first g_second g_sums = some t → (Sum.elim F60 (Sum.elim F50 (fun z => z = (r0, v_first, v_second, v_sums)))) t → va_P D vwCl [(a_this, .inr (8, [.int g_length, .ref a_text, .ref a_now, .ref a_before, .int g_undoMany, .ref a_read, .int g_spot, .ref a_first, .ref a_second, .ref a_sums, .ref a_other, .int g_step, .int g_coverMany, .ref a_grid, .ref a_order, .int g_leastSums, .int g_leastPart])), (a_now, .inl (cZ, 164, .inl g_now)), (a_first, .inl (cI, 41, .inl g_first)), (a_second, .inl (cI, 41, .inl g_second)), (a_sums, .inl (cZ, 241, .inl g_sums))] H → va_D A [(a_this, .inr (8, [.int g_length, .ref a_text, .ref a_now, .ref a_before, .int g_undoMany, .ref a_read, .int g_spot, .ref a_first, .ref a_second, .ref a_sums, .ref a_other, .int g_step, .int g_coverMany, .ref a_grid, .ref a_order, .int g_leastSums, .int g_leastPart])), (a_now, .inl (cZ, 164, .inl g_now)), (a_first, .inl (cI, 41, .inl g_first)), (a_second, .inl (cI, 41, .inl g_second)), (a_sums, .inl (cZ, 241, .inl g_sums))] → va_S A s.heap H locs → lv_has ls 8 [(0, .ref a_this), (3, .int x3), (4, .int x4), (5, .int x5), (6, .int x6), (7, .int x7)] → W p l e rmX8_adds s m ([.ref a_this, .int q1, .int q2, .int q3] : List Value).toArray below meth c H locs 0 0 (MQ below (cQi D r0 A [(a_this, .inr (8, [.int g_length, .ref a_text, .ref a_now, .ref a_before, .int g_undoMany, .ref a_read, .int g_spot, .ref a_first, .ref a_second, .ref a_sums, .ref a_other, .int g_step, .int g_coverMany, .ref a_grid, .ref a_order, .int g_leastSums, .int g_leastPart])), (a_now, .inl (cZ, 164, .inl g_now)), (a_first, .inl (cI, 41, .inl v_first)), (a_second, .inl (cI, 41, .inl v_second)), (a_sums, .inl (cZ, 241, .inl v_sums))]) ([.ref a_this, .int q1, .int q2, .int q3] : List Value).toArray s 0 0 A) (F0 m 111 ls [.int k1, .ref a_sums]) := by
            intro x7 k1 g_sums t H locs ls hf hF hP hD hS hl
            unfold bX8_adds_111 at hf
            refine lv_iconst (v := 1) hx hb dX8_adds_111 (by decide) ?_
            obtain ⟨c1, hf⟩ := gd_some hf
            refine va_zast hx hb hN.1 hP hD hS 4 3 rfl rfl (ix_in c1) dX8_adds_112 (fun H locs hP hD hS => ?_)
            obtain ⟨y2, ey2⟩ : ∃ z, z = upd g_sums k1.toNatClampNeg (vp_nar .boolean (1 : Int32)) := ⟨_, rfl⟩
            have hf := lt_some hf y2 ey2
            have hP : va_P D vwCl [(a_this, .inr (8, [.int g_length, .ref a_text, .ref a_now, .ref a_before, .int g_undoMany, .ref a_read, .int g_spot, .ref a_first, .ref a_second, .ref a_sums, .ref a_other, .int g_step, .int g_coverMany, .ref a_grid, .ref a_order, .int g_leastSums, .int g_leastPart])), (a_now, .inl (cZ, 164, .inl g_now)), (a_first, .inl (cI, 41, .inl g_first)), (a_second, .inl (cI, 41, .inl g_second)), (a_sums, .inl (cZ, 241, .inl y2))] H := by rw [ey2]; exact hP
            have hD : va_D A [(a_this, .inr (8, [.int g_length, .ref a_text, .ref a_now, .ref a_before, .int g_undoMany, .ref a_read, .int g_spot, .ref a_first, .ref a_second, .ref a_sums, .ref a_other, .int g_step, .int g_coverMany, .ref a_grid, .ref a_order, .int g_leastSums, .int g_leastPart])), (a_now, .inl (cZ, 164, .inl g_now)), (a_first, .inl (cI, 41, .inl g_first)), (a_second, .inl (cI, 41, .inl g_second)), (a_sums, .inl (cZ, 241, .inl y2))] := by rw [ey2]; exact hD
            obtain ⟨y3, ey3⟩ : ∃ z : Int32, z = x7 + (1 : Int32) := ⟨_, rfl⟩
            have hf := lt_some hf y3 ey3
            refine lv_iinc (v := y3) (lv' := [(7, .int y3), (0, .ref a_this), (3, .int x3), (4, .int x4), (5, .int x5), (6, .int x6)]) hx hb dX8_adds_113 hl (k := 5) rfl (by rw [ey3]; rfl) (by decide) rfl (fun ls hl => ?_)
            refine lv_goto (tgt := 60) hx hb dX8_adds_116 (by decide) ?_
            cases hf
            exact ((congrFun eF60 _).mp hF) H locs ls hP hD hS (lv_sub hl [1, 2, 3, 4, 5, 0] rfl)
          rw [eF60]
          obtain ⟨x7, g_sums⟩ := q
          intro H locs ls hP hD hS hl
          have hP : va_P D vwCl [(a_this, .inr (8, [.int g_length, .ref a_text, .ref a_now, .ref a_before, .int g_undoMany, .ref a_read, .int g_spot, .ref a_first, .ref a_second, .ref a_sums, .ref a_other, .int g_step, .int g_coverMany, .ref a_grid, .ref a_order, .int g_leastSums, .int g_leastPart])), (a_now, .inl (cZ, 164, .inl g_now)), (a_first, .inl (cI, 41, .inl g_first)), (a_second, .inl (cI, 41, .inl g_second)), (a_sums, .inl (cZ, 241, .inl g_sums))] H := hP
          have hD : va_D A [(a_this, .inr (8, [.int g_length, .ref a_text, .ref a_now, .ref a_before, .int g_undoMany, .ref a_read, .int g_spot, .ref a_first, .ref a_second, .ref a_sums, .ref a_other, .int g_step, .int g_coverMany, .ref a_grid, .ref a_order, .int g_leastSums, .int g_leastPart])), (a_now, .inl (cZ, 164, .inl g_now)), (a_first, .inl (cI, 41, .inl g_first)), (a_second, .inl (cI, 41, .inl g_second)), (a_sums, .inl (cZ, 241, .inl g_sums))] := hD
          have hl : lv_has ls 8 [(0, .ref a_this), (3, .int x3), (4, .int x4), (5, .int x5), (6, .int x6), (7, .int x7)] := hl
          have hf : bX8_adds_60 x3 x4 x5 x6 g_now g_first g_second x7 g_sums = some t := hf
          unfold bX8_adds_60 at hf
          refine lv_iload hx hb dX8_adds_60 (lv_at hl 5 rfl) ?_
          refine lv_iload hx hb dX8_adds_62 (lv_at hl 3 rfl) ?_
          refine lv_icmp_ge (tgt := 119) hx hb dX8_adds_64 (by decide) (fun c4 => ?_) (fun c4 => ?_)
          · have hf := br_pos c4 hf
            obtain ⟨y5, ey5⟩ : ∃ z : Int32, z = x6 + (1 : Int32) := ⟨_, rfl⟩
            have hf := lt_some hf y5 ey5
            refine lv_iinc (v := y5) (lv' := [(6, .int y5), (0, .ref a_this), (3, .int x3), (4, .int x4), (5, .int x5), (7, .int x7)]) hx hb dX8_adds_119 hl (k := 4) rfl (by rw [ey5]; rfl) (by decide) rfl (fun ls hl => ?_)
            refine lv_goto (tgt := 50) hx hb dX8_adds_122 (by decide) ?_
            cases hf
            exact ((congrFun eF50 _).mp hF) H locs ls hP hD hS (lv_sub hl [1, 2, 3, 4, 0] rfl)
          · have hf := br_neg c4 hf
            refine lv_aload_n hx hb dX8_adds_67 rfl (lv_at hl 0 rfl) ?_
            refine va_get (D := D) (ci := 8) (v := .ref a_sums) (C := RX8) (T := TX8) (N := 17) hx hb hts z1 hown hN.1 hP 0 rfl rfl 9 (by decide) z2 (fun _ h9 => h9) rfl dX8_adds_68 ?_
            refine lv_iload_n hx hb dX8_adds_71 rfl (lv_at hl 1 rfl) ?_
            refine lv_if_le (tgt := 93) hx hb dX8_adds_72 (by decide) (fun c6 => ?_) (fun c6 => ?_)
            · have hf := br_pos c6 hf
              refine lv_aload_n hx hb dX8_adds_93 rfl (lv_at hl 0 rfl) ?_
              refine va_get (D := D) (ci := 8) (v := .ref a_first) (C := RX8) (T := TX8) (N := 17) hx hb hts z1 hown hN.1 hP 0 rfl rfl 7 (by decide) z3 (fun _ h9 => h9) rfl dX8_adds_94 ?_
              refine lv_iload hx hb dX8_adds_97 (lv_at hl 4 rfl) ?_
              obtain ⟨c7, hf⟩ := gd_some hf
              refine va_iald hx hb hN.1 hP 2 0 rfl rfl (ix_in c7) dX8_adds_99 ?_
              refine lv_aload_n hx hb dX8_adds_100 rfl (lv_at hl 0 rfl) ?_
              refine va_get (D := D) (ci := 8) (v := .ref a_second) (C := RX8) (T := TX8) (N := 17) hx hb hts z1 hown hN.1 hP 0 rfl rfl 8 (by decide) z4 (fun _ h9 => h9) rfl dX8_adds_101 ?_
              refine lv_iload hx hb dX8_adds_104 (lv_at hl 5 rfl) ?_
              obtain ⟨c8, hf⟩ := gd_some hf
              refine va_iald hx hb hN.1 hP 3 0 rfl rfl (ix_in c8) dX8_adds_106 ?_
              refine lv_isub hx hb dX8_adds_107 ?_
              refine lv_bipush (v := 40) hx hb dX8_adds_108 (by decide) ?_
              refine lv_iadd hx hb dX8_adds_110 ?_
              exact w111 x7 (((g_first x6.toNatClampNeg) - (g_second x7.toNatClampNeg)) + (40 : Int32)) g_sums _ H locs ls hf hF hP hD hS (lv_sub hl [0, 1, 2, 3, 4, 5] rfl)
            · have hf := br_neg c6 hf
              refine lv_aload_n hx hb dX8_adds_75 rfl (lv_at hl 0 rfl) ?_
              refine va_get (D := D) (ci := 8) (v := .ref a_first) (C := RX8) (T := TX8) (N := 17) hx hb hts z1 hown hN.1 hP 0 rfl rfl 7 (by decide) z3 (fun _ h9 => h9) rfl dX8_adds_76 ?_
              refine lv_iload hx hb dX8_adds_79 (lv_at hl 4 rfl) ?_
              obtain ⟨c9, hf⟩ := gd_some hf
              refine va_iald hx hb hN.1 hP 2 0 rfl rfl (ix_in c9) dX8_adds_81 ?_
              refine lv_aload_n hx hb dX8_adds_82 rfl (lv_at hl 0 rfl) ?_
              refine va_get (D := D) (ci := 8) (v := .ref a_second) (C := RX8) (T := TX8) (N := 17) hx hb hts z1 hown hN.1 hP 0 rfl rfl 8 (by decide) z4 (fun _ h9 => h9) rfl dX8_adds_83 ?_
              refine lv_iload hx hb dX8_adds_86 (lv_at hl 5 rfl) ?_
              obtain ⟨c10, hf⟩ := gd_some hf
              refine va_iald hx hb hN.1 hP 3 0 rfl rfl (ix_in c10) dX8_adds_88 ?_
              refine lv_iadd hx hb dX8_adds_89 ?_
              refine lv_goto (tgt := 111) hx hb dX8_adds_90 (by decide) ?_
              exact w111 x7 ((g_first x6.toNatClampNeg) + (g_second x7.toNatClampNeg)) g_sums _ H locs ls hf hF hP hD hS (lv_sub hl [0, 1, 2, 3, 4, 5] rfl)
        intro x7 g_sums t H locs ls hf hF hP hD hS hl
        exact ((congrFun eF60 _).mp (key ((x7, g_sums)) t hf hF)) H locs ls hP hD hS hl
      rw [eF50]
      obtain ⟨x6, g_sums⟩ := q
      intro H locs ls hP hD hS hl
      have hP : va_P D vwCl [(a_this, .inr (8, [.int g_length, .ref a_text, .ref a_now, .ref a_before, .int g_undoMany, .ref a_read, .int g_spot, .ref a_first, .ref a_second, .ref a_sums, .ref a_other, .int g_step, .int g_coverMany, .ref a_grid, .ref a_order, .int g_leastSums, .int g_leastPart])), (a_now, .inl (cZ, 164, .inl g_now)), (a_first, .inl (cI, 41, .inl g_first)), (a_second, .inl (cI, 41, .inl g_second)), (a_sums, .inl (cZ, 241, .inl g_sums))] H := hP
      have hD : va_D A [(a_this, .inr (8, [.int g_length, .ref a_text, .ref a_now, .ref a_before, .int g_undoMany, .ref a_read, .int g_spot, .ref a_first, .ref a_second, .ref a_sums, .ref a_other, .int g_step, .int g_coverMany, .ref a_grid, .ref a_order, .int g_leastSums, .int g_leastPart])), (a_now, .inl (cZ, 164, .inl g_now)), (a_first, .inl (cI, 41, .inl g_first)), (a_second, .inl (cI, 41, .inl g_second)), (a_sums, .inl (cZ, 241, .inl g_sums))] := hD
      have hl : lv_has ls 8 [(0, .ref a_this), (3, .int x3), (4, .int x4), (5, .int x5), (6, .int x6)] := hl
      have hf : bX8_adds_50 x3 x4 x5 g_now g_first g_second x6 g_sums = some t := hf
      unfold bX8_adds_50 at hf
      refine lv_iload hx hb dX8_adds_50 (lv_at hl 4 rfl) ?_
      refine lv_iload hx hb dX8_adds_52 (lv_at hl 2 rfl) ?_
      refine lv_icmp_ge (tgt := 125) hx hb dX8_adds_54 (by decide) (fun c11 => ?_) (fun c11 => ?_)
      · have hf := br_pos c11 hf
        refine lv_aload_n hx hb dX8_adds_125 rfl (lv_at hl 0 rfl) ?_
        refine lv_aload_n hx hb dX8_adds_126 rfl (lv_at hl 0 rfl) ?_
        refine va_get (D := D) (ci := 8) (v := .ref a_sums) (C := RX8) (T := TX8) (N := 17) hx hb hts z1 hown hN.1 hP 0 rfl rfl 9 (by decide) z2 (fun _ h9 => h9) rfl dX8_adds_127 ?_
        obtain ⟨u12, hu12, hf⟩ := bd_some hf
        refine caVI (rest := []) (As := [.ref a_sums]) (wr := [(a_this, .inr (8, [.int g_length, .ref a_text, .ref a_now, .ref a_before, .int g_undoMany, .ref a_read, .int g_spot, .ref a_first, .ref a_second, .ref a_sums, .ref a_other, .int g_step, .int g_coverMany, .ref a_grid, .ref a_order, .int g_leastSums, .int g_leastPart])), (a_now, .inl (cZ, 164, .inl g_now)), (a_first, .inl (cI, 41, .inl g_first)), (a_second, .inl (cI, 41, .inl g_second))]) (wo := [(a_this, .inr (8, [.int g_length, .ref a_text, .ref a_now, .ref a_before, .int g_undoMany, .ref a_read, .int g_spot, .ref a_first, .ref a_second, .ref a_sums, .ref a_other, .int g_step, .int g_coverMany, .ref a_grid, .ref a_order, .int g_leastSums, .int g_leastPart])), (a_now, .inl (cZ, 164, .inl g_now)), (a_first, .inl (cI, 41, .inl g_first)), (a_second, .inl (cI, 41, .inl g_second)), (a_sums, .inl (cZ, 241, .inl g_sums))]) ⟨hx, hb, hml, hown, hts⟩ hN hP hD hS hA (cX8_ones_ct l D cI cL cC cZ a_this a_sums 241 g_sums u12 hu12) z5 0 8 rfl rfl [4] [0, 1, 2, 3] [0, 1, 2, 3, 4] rfl (by decide) rfl (by decide) (by decide) rfl (by decide) rfl hl.1 rfl (Nat.le_of_ble_eq_true rfl) dX8_adds_130 ⟨Nat.zero_le _, Nat.zero_le _⟩ (fun H locs hP hD hS => ?_)
        cases hf
        have hE : (u12, g_first, g_second, g_sums) = (r0, v_first, v_second, v_sums) := hF
        simp only [Prod.mk.injEq] at hE
        obtain ⟨rfl, rfl, rfl, rfl⟩ := hE
        exact rtI hx hb hr hlk hP hD hS dX8_adds_133
      · have hf := br_neg c11 hf
        refine lv_iconst (v := 0) hx hb dX8_adds_57 (by decide) ?_
        refine lv_istore (lv' := [(7, .int (0 : Int32)), (0, .ref a_this), (3, .int x3), (4, .int x4), (5, .int x5), (6, .int x6)]) hx hb dX8_adds_58 hl (by decide) rfl (fun ls hl => ?_)
        exact w60 x6 (0 : Int32) g_sums _ H locs ls hf hF hP hD hS (lv_sub hl [1, 2, 3, 4, 5, 0] rfl)
    intro x6 g_sums t H locs ls hf hF hP hD hS hl
    exact ((congrFun eF50 _).mp (key ((x6, g_sums)) t hf hF)) H locs ls hP hD hS hl
  have w25 : ∀ (x3 : Int32) (x4 : Int32) (x5 : Int32) (g_now : Nat → Int32) (g_first : Nat → Int32) (g_second : Nat → Int32) (x6 : Int32) (g_sums : Nat → Int32) (t : Int32 × (Nat → Int32) × (Nat → Int32) × (Nat → Int32)) (H : Heap) (locs : List Loc) (ls : Array Slot), run (sX8_adds_25 x3 x4 x5 g_now g_first g_second) ((x6, g_sums)) = some t → (fun z => z = (r0, v_first, v_second, v_sums)) t → va_P D vwCl [(a_this, .inr (8, [.int g_length, .ref a_text, .ref a_now, .ref a_before, .int g_undoMany, .ref a_read, .int g_spot, .ref a_first, .ref a_second, .ref a_sums, .ref a_other, .int g_step, .int g_coverMany, .ref a_grid, .ref a_order, .int g_leastSums, .int g_leastPart])), (a_now, .inl (cZ, 164, .inl g_now)), (a_first, .inl (cI, 41, .inl g_first)), (a_second, .inl (cI, 41, .inl g_second)), (a_sums, .inl (cZ, 241, .inl g_sums))] H → va_D A [(a_this, .inr (8, [.int g_length, .ref a_text, .ref a_now, .ref a_before, .int g_undoMany, .ref a_read, .int g_spot, .ref a_first, .ref a_second, .ref a_sums, .ref a_other, .int g_step, .int g_coverMany, .ref a_grid, .ref a_order, .int g_leastSums, .int g_leastPart])), (a_now, .inl (cZ, 164, .inl g_now)), (a_first, .inl (cI, 41, .inl g_first)), (a_second, .inl (cI, 41, .inl g_second)), (a_sums, .inl (cZ, 241, .inl g_sums))] → va_S A s.heap H locs → lv_has ls 8 [(0, .ref a_this), (3, .int x3), (4, .int x4), (5, .int x5), (6, .int x6)] → W p l e rmX8_adds s m ([.ref a_this, .int q1, .int q2, .int q3] : List Value).toArray below meth c H locs 0 0 (MQ below (cQi D r0 A [(a_this, .inr (8, [.int g_length, .ref a_text, .ref a_now, .ref a_before, .int g_undoMany, .ref a_read, .int g_spot, .ref a_first, .ref a_second, .ref a_sums, .ref a_other, .int g_step, .int g_coverMany, .ref a_grid, .ref a_order, .int g_leastSums, .int g_leastPart])), (a_now, .inl (cZ, 164, .inl g_now)), (a_first, .inl (cI, 41, .inl v_first)), (a_second, .inl (cI, 41, .inl v_second)), (a_sums, .inl (cZ, 241, .inl v_sums))]) ([.ref a_this, .int q1, .int q2, .int q3] : List Value).toArray s 0 0 A) (F0 m 25 ls []) := by
    intro x3 x4 x5 g_now g_first g_second
    obtain ⟨F25, eF25⟩ : ∃ F : (Int32 × (Nat → Int32)) → Prop, F = fun q => ∀ (H : Heap) (locs : List Loc) (ls : Array Slot), va_P D vwCl [(a_this, .inr (8, [.int g_length, .ref a_text, .ref a_now, .ref a_before, .int g_undoMany, .ref a_read, .int g_spot, .ref a_first, .ref a_second, .ref a_sums, .ref a_other, .int g_step, .int g_coverMany, .ref a_grid, .ref a_order, .int g_leastSums, .int g_leastPart])), (a_now, .inl (cZ, 164, .inl g_now)), (a_first, .inl (cI, 41, .inl g_first)), (a_second, .inl (cI, 41, .inl g_second)), (a_sums, .inl (cZ, 241, .inl q.2))] H → va_D A [(a_this, .inr (8, [.int g_length, .ref a_text, .ref a_now, .ref a_before, .int g_undoMany, .ref a_read, .int g_spot, .ref a_first, .ref a_second, .ref a_sums, .ref a_other, .int g_step, .int g_coverMany, .ref a_grid, .ref a_order, .int g_leastSums, .int g_leastPart])), (a_now, .inl (cZ, 164, .inl g_now)), (a_first, .inl (cI, 41, .inl g_first)), (a_second, .inl (cI, 41, .inl g_second)), (a_sums, .inl (cZ, 241, .inl q.2))] → va_S A s.heap H locs → lv_has ls 8 [(0, .ref a_this), (3, .int x3), (4, .int x4), (5, .int x5), (6, .int q.1)] → W p l e rmX8_adds s m ([.ref a_this, .int q1, .int q2, .int q3] : List Value).toArray below meth c H locs 0 0 (MQ below (cQi D r0 A [(a_this, .inr (8, [.int g_length, .ref a_text, .ref a_now, .ref a_before, .int g_undoMany, .ref a_read, .int g_spot, .ref a_first, .ref a_second, .ref a_sums, .ref a_other, .int g_step, .int g_coverMany, .ref a_grid, .ref a_order, .int g_leastSums, .int g_leastPart])), (a_now, .inl (cZ, 164, .inl g_now)), (a_first, .inl (cI, 41, .inl v_first)), (a_second, .inl (cI, 41, .inl v_second)), (a_sums, .inl (cZ, 241, .inl v_sums))]) ([.ref a_this, .int q1, .int q2, .int q3] : List Value).toArray s 0 0 A) (F0 m 25 ls []) := ⟨_, rfl⟩
    have key : ∀ (q : Int32 × (Nat → Int32)) (t : Int32 × (Nat → Int32) × (Nat → Int32) × (Nat → Int32)), run (sX8_adds_25 x3 x4 x5 g_now g_first g_second) q = some t → (fun z => z = (r0, v_first, v_second, v_sums)) t → F25 q := by
      refine loop_rule (sX8_adds_25 x3 x4 x5 g_now g_first g_second) F25 (fun z => z = (r0, v_first, v_second, v_sums)) ?_
      intro q t hf hF
      have hF : (Sum.elim F25 (fun z => z = (r0, v_first, v_second, v_sums))) t := hF
      rw [eF25]
      obtain ⟨x6, g_sums⟩ := q
      intro H locs ls hP hD hS hl
      have hP : va_P D vwCl [(a_this, .inr (8, [.int g_length, .ref a_text, .ref a_now, .ref a_before, .int g_undoMany, .ref a_read, .int g_spot, .ref a_first, .ref a_second, .ref a_sums, .ref a_other, .int g_step, .int g_coverMany, .ref a_grid, .ref a_order, .int g_leastSums, .int g_leastPart])), (a_now, .inl (cZ, 164, .inl g_now)), (a_first, .inl (cI, 41, .inl g_first)), (a_second, .inl (cI, 41, .inl g_second)), (a_sums, .inl (cZ, 241, .inl g_sums))] H := hP
      have hD : va_D A [(a_this, .inr (8, [.int g_length, .ref a_text, .ref a_now, .ref a_before, .int g_undoMany, .ref a_read, .int g_spot, .ref a_first, .ref a_second, .ref a_sums, .ref a_other, .int g_step, .int g_coverMany, .ref a_grid, .ref a_order, .int g_leastSums, .int g_leastPart])), (a_now, .inl (cZ, 164, .inl g_now)), (a_first, .inl (cI, 41, .inl g_first)), (a_second, .inl (cI, 41, .inl g_second)), (a_sums, .inl (cZ, 241, .inl g_sums))] := hD
      have hl : lv_has ls 8 [(0, .ref a_this), (3, .int x3), (4, .int x4), (5, .int x5), (6, .int x6)] := hl
      have hf : bX8_adds_25 x3 x4 x5 g_now g_first g_second x6 g_sums = some t := hf
      unfold bX8_adds_25 at hf
      refine lv_iload hx hb dX8_adds_25 (lv_at hl 4 rfl) ?_
      refine lv_sipush (v := 241) hx hb dX8_adds_27 (by decide) ?_
      refine lv_icmp_ge (tgt := 47) hx hb dX8_adds_30 (by decide) (fun c13 => ?_) (fun c13 => ?_)
      · have hf := br_pos c13 hf
        refine lv_iconst (v := 0) hx hb dX8_adds_47 (by decide) ?_
        refine lv_istore (lv' := [(6, .int (0 : Int32)), (0, .ref a_this), (3, .int x3), (4, .int x4), (5, .int x5)]) hx hb dX8_adds_48 hl (by decide) rfl (fun ls hl => ?_)
        obtain ⟨t14, hf, hF⟩ := ml_fin hf hF
        have hF : t14 = (r0, v_first, v_second, v_sums) := hF
        rw [hF] at hf
        exact w50 x3 x4 x5 g_now g_first g_second (0 : Int32) g_sums (r0, v_first, v_second, v_sums) H locs ls hf rfl hP hD hS (lv_sub hl [1, 2, 3, 4, 0] rfl)
      · have hf := br_neg c13 hf
        refine lv_aload_n hx hb dX8_adds_33 rfl (lv_at hl 0 rfl) ?_
        refine va_get (D := D) (ci := 8) (v := .ref a_sums) (C := RX8) (T := TX8) (N := 17) hx hb hts z1 hown hN.1 hP 0 rfl rfl 9 (by decide) z2 (fun _ h9 => h9) rfl dX8_adds_34 ?_
        refine lv_iload hx hb dX8_adds_37 (lv_at hl 4 rfl) ?_
        refine lv_iconst (v := 0) hx hb dX8_adds_39 (by decide) ?_
        obtain ⟨c15, hf⟩ := gd_some hf
        refine va_zast hx hb hN.1 hP hD hS 4 3 rfl rfl (ix_in c15) dX8_adds_40 (fun H locs hP hD hS => ?_)
        obtain ⟨y16, ey16⟩ : ∃ z, z = upd g_sums x6.toNatClampNeg (vp_nar .boolean (0 : Int32)) := ⟨_, rfl⟩
        have hf := lt_some hf y16 ey16
        have hP : va_P D vwCl [(a_this, .inr (8, [.int g_length, .ref a_text, .ref a_now, .ref a_before, .int g_undoMany, .ref a_read, .int g_spot, .ref a_first, .ref a_second, .ref a_sums, .ref a_other, .int g_step, .int g_coverMany, .ref a_grid, .ref a_order, .int g_leastSums, .int g_leastPart])), (a_now, .inl (cZ, 164, .inl g_now)), (a_first, .inl (cI, 41, .inl g_first)), (a_second, .inl (cI, 41, .inl g_second)), (a_sums, .inl (cZ, 241, .inl y16))] H := by rw [ey16]; exact hP
        have hD : va_D A [(a_this, .inr (8, [.int g_length, .ref a_text, .ref a_now, .ref a_before, .int g_undoMany, .ref a_read, .int g_spot, .ref a_first, .ref a_second, .ref a_sums, .ref a_other, .int g_step, .int g_coverMany, .ref a_grid, .ref a_order, .int g_leastSums, .int g_leastPart])), (a_now, .inl (cZ, 164, .inl g_now)), (a_first, .inl (cI, 41, .inl g_first)), (a_second, .inl (cI, 41, .inl g_second)), (a_sums, .inl (cZ, 241, .inl y16))] := by rw [ey16]; exact hD
        obtain ⟨y17, ey17⟩ : ∃ z : Int32, z = x6 + (1 : Int32) := ⟨_, rfl⟩
        have hf := lt_some hf y17 ey17
        refine lv_iinc (v := y17) (lv' := [(6, .int y17), (0, .ref a_this), (3, .int x3), (4, .int x4), (5, .int x5)]) hx hb dX8_adds_41 hl (k := 4) rfl (by rw [ey17]; rfl) (by decide) rfl (fun ls hl => ?_)
        refine lv_goto (tgt := 25) hx hb dX8_adds_44 (by decide) ?_
        cases hf
        exact ((congrFun eF25 _).mp hF) H locs ls hP hD hS (lv_sub hl [1, 2, 3, 4, 0] rfl)
    intro x6 g_sums t H locs ls hf hF hP hD hS hl
    exact ((congrFun eF25 _).mp (key ((x6, g_sums)) t hf hF)) H locs ls hP hD hS hl
  unfold fX8_adds at hf
  obtain ⟨H, eH⟩ : ∃ z, z = s.heap := ⟨_, rfl⟩
  obtain ⟨locs, eL⟩ : ∃ z : List Loc, z = [] := ⟨_, rfl⟩
  have hP : va_P D vwCl [(a_this, .inr (8, [.int g_length, .ref a_text, .ref a_now, .ref a_before, .int g_undoMany, .ref a_read, .int g_spot, .ref a_first, .ref a_second, .ref a_sums, .ref a_other, .int g_step, .int g_coverMany, .ref a_grid, .ref a_order, .int g_leastSums, .int g_leastPart])), (a_now, .inl (cZ, 164, .inl g_now)), (a_first, .inl (cI, 41, .inl g_first)), (a_second, .inl (cI, 41, .inl g_second)), (a_sums, .inl (cZ, 241, .inl g_sums))] H := by rw [eH]; exact hP
  have hS : va_S A s.heap H locs := by rw [eH, eL]; exact hS
  suffices hG : W p l e rmX8_adds s m ([.ref a_this, .int q1, .int q2, .int q3] : List Value).toArray below meth c H locs 0 0 (MQ below (cQi D r0 A [(a_this, .inr (8, [.int g_length, .ref a_text, .ref a_now, .ref a_before, .int g_undoMany, .ref a_read, .int g_spot, .ref a_first, .ref a_second, .ref a_sums, .ref a_other, .int g_step, .int g_coverMany, .ref a_grid, .ref a_order, .int g_leastSums, .int g_leastPart])), (a_now, .inl (cZ, 164, .inl g_now)), (a_first, .inl (cI, 41, .inl v_first)), (a_second, .inl (cI, 41, .inl v_second)), (a_sums, .inl (cZ, 241, .inl v_sums))]) ([.ref a_this, .int q1, .int q2, .int q3] : List Value).toArray s 0 0 A) (F0 m 0 ls []) by rw [eH, eL] at hG; exact hG
  refine lv_aload_n hx hb dX8_adds_0 rfl (lv_at hl 0 rfl) ?_
  refine lv_iload_n hx hb dX8_adds_1 rfl (lv_at hl 1 rfl) ?_
  refine lv_aload_n hx hb dX8_adds_2 rfl (lv_at hl 0 rfl) ?_
  refine va_get (D := D) (ci := 8) (v := .ref a_first) (C := RX8) (T := TX8) (N := 17) hx hb hts z1 hown hN.1 hP 0 rfl rfl 7 (by decide) z3 (fun _ h9 => h9) rfl dX8_adds_3 ?_
  obtain ⟨u18, hu18, hf⟩ := bd_some hf
  refine caVI (rest := []) (As := [.int q1, .ref a_first]) (wr := [(a_second, .inl (cI, 41, .inl g_second)), (a_sums, .inl (cZ, 241, .inl g_sums))]) (wo := [(a_this, .inr (8, [.int g_length, .ref a_text, .ref a_now, .ref a_before, .int g_undoMany, .ref a_read, .int g_spot, .ref a_first, .ref a_second, .ref a_sums, .ref a_other, .int g_step, .int g_coverMany, .ref a_grid, .ref a_order, .int g_leastSums, .int g_leastPart])), (a_now, .inl (cZ, 164, .inl g_now)), (a_first, .inl (cI, 41, .inl u18.2)), (a_second, .inl (cI, 41, .inl g_second)), (a_sums, .inl (cZ, 241, .inl g_sums))]) ⟨hx, hb, hml, hown, hts⟩ hN hP hD hS hA (cX8_lists_ct l D cI cL cC cZ a_this a_first a_text a_now a_before a_read a_first a_second a_sums a_other a_grid a_order 41 g_length g_undoMany g_spot g_step g_coverMany g_leastSums g_leastPart g_now g_first q1 u18.1 u18.2 hu18) z6 0 8 rfl rfl [0, 1, 2] [3, 4] [2, 3, 4, 0, 1] rfl (by decide) rfl (by decide) (by decide) rfl (by decide) rfl hl.1 rfl (Nat.le_of_ble_eq_true rfl) dX8_adds_6 ⟨Nat.zero_le _, Nat.zero_le _⟩ (fun H locs hP hD hS => ?_)
  refine lv_istore (lv' := [(4, .int u18.1), (0, .ref a_this), (1, .int q1), (2, .int q2), (3, .int q3)]) hx hb dX8_adds_9 hl (by decide) rfl (fun ls hl => ?_)
  refine lv_aload_n hx hb dX8_adds_11 rfl (lv_at hl 1 rfl) ?_
  refine lv_iload_n hx hb dX8_adds_12 rfl (lv_at hl 3 rfl) ?_
  refine lv_aload_n hx hb dX8_adds_13 rfl (lv_at hl 1 rfl) ?_
  refine va_get (D := D) (ci := 8) (v := .ref a_second) (C := RX8) (T := TX8) (N := 17) hx hb hts z1 hown hN.1 hP 0 rfl rfl 8 (by decide) z4 (fun _ h9 => h9) rfl dX8_adds_14 ?_
  obtain ⟨u19, hu19, hf⟩ := bd_some hf
  refine caVI (rest := []) (As := [.int q2, .ref a_second]) (wr := [(a_first, .inl (cI, 41, .inl u18.2)), (a_sums, .inl (cZ, 241, .inl g_sums))]) (wo := [(a_this, .inr (8, [.int g_length, .ref a_text, .ref a_now, .ref a_before, .int g_undoMany, .ref a_read, .int g_spot, .ref a_first, .ref a_second, .ref a_sums, .ref a_other, .int g_step, .int g_coverMany, .ref a_grid, .ref a_order, .int g_leastSums, .int g_leastPart])), (a_now, .inl (cZ, 164, .inl g_now)), (a_first, .inl (cI, 41, .inl u18.2)), (a_second, .inl (cI, 41, .inl u19.2)), (a_sums, .inl (cZ, 241, .inl g_sums))]) ⟨hx, hb, hml, hown, hts⟩ hN hP hD hS hA (cX8_lists_ct l D cI cL cC cZ a_this a_second a_text a_now a_before a_read a_first a_second a_sums a_other a_grid a_order 41 g_length g_undoMany g_spot g_step g_coverMany g_leastSums g_leastPart g_now g_second q2 u19.1 u19.2 hu19) z6 0 8 rfl rfl [0, 1, 3] [2, 4] [2, 3, 0, 4, 1] rfl (by decide) rfl (by decide) (by decide) rfl (by decide) rfl hl.1 rfl (Nat.le_of_ble_eq_true rfl) dX8_adds_17 ⟨Nat.zero_le _, Nat.zero_le _⟩ (fun H locs hP hD hS => ?_)
  refine lv_istore (lv' := [(5, .int u19.1), (4, .int u18.1), (0, .ref a_this), (1, .int q1), (2, .int q2), (3, .int q3)]) hx hb dX8_adds_20 hl (by decide) rfl (fun ls hl => ?_)
  refine lv_iconst (v := 0) hx hb dX8_adds_22 (by decide) ?_
  refine lv_istore (lv' := [(6, .int (0 : Int32)), (5, .int u19.1), (4, .int u18.1), (0, .ref a_this), (1, .int q1), (2, .int q2), (3, .int q3)]) hx hb dX8_adds_23 hl (by decide) rfl (fun ls hl => ?_)
  exact w25 q3 u18.1 u19.1 g_now u18.2 u19.2 (0 : Int32) g_sums (r0, v_first, v_second, v_sums) H locs ls hf rfl hP hD hS (lv_sub hl [3, 6, 2, 1, 0] rfl)
