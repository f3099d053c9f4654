abbrev rmX3_clear : Room := { frames := 0, cells := 0, slots := 0, locals := 0 }
noncomputable def fX3_clear (g_length : Int32) : Option (Int32) := some ((0 : Int32))
set_option maxHeartbeats 4000000 in
set_option maxRecDepth 100000 in
theorem cX3_clear_ct (l : Launch) (D : va_G) (cI cL cC cZ : ClassId) (a_this a_letters a_sets : Nat) (g_length : Int32) (g_numbers : Int64) (v_length : Int32) (hf : fX3_clear g_length = some v_length) : CtV l yX3_clear wsX3_clear rmX3_clear D (tyz cI cL cC cZ) [.ref a_this] [(a_this, .inr (3, [.ref a_letters, .ref a_sets, .int g_length, .long g_numbers]))] [(a_this, .inr (3, [.ref a_letters, .ref a_sets, .int v_length, .long g_numbers]))] := by
  refine CtV.make (cc := cX3_clear) (maxL := 1) (by decide) rfl (Nat.le_of_ble_eq_true rfl) ?_
  intro p e s m below meth c A ls C0 hN hA hP hD hl
  obtain ⟨hx, hb, hr, hml, hown, hts, hlk⟩ := id C0
  have hown : s.vm.findClass RX3 = some m.cls := hown
  have hS : va_S A s.heap s.heap [] := va_S.rf
  have hP : va_P D vwCl [(a_this, .inr (3, [.ref a_letters, .ref a_sets, .int g_length, .long g_numbers]))] s.heap := hP
  have hD : va_D A [(a_this, .inr (3, [.ref a_letters, .ref a_sets, .int g_length, .long g_numbers]))] := hD
  have hl : lv_has ls 1 [(0, .ref a_this)] := hl
  have z1 : ∀ w ∈ u_ws RX3 TX3 4, w ∈ wsX3_clear := by decide +kernel
  have z2 := hts (.fieldLink RX3 19 "LittleSums$Script" "length" "I") (by decide +kernel)
  unfold fX3_clear at hf
  obtain ⟨H, eH⟩ : ∃ z, z = s.heap := ⟨_, rfl⟩
  obtain ⟨locs, eL⟩ : ∃ z : List Loc, z = [] := ⟨_, rfl⟩
  have hP : va_P D vwCl [(a_this, .inr (3, [.ref a_letters, .ref a_sets, .int g_length, .long g_numbers]))] H := by rw [eH]; exact hP
  have hS : va_S A s.heap H locs := by rw [eH, eL]; exact hS
  suffices hG : W p l e rmX3_clear s m ([.ref a_this] : List Value).toArray below meth c H locs 0 0 (MQ below (cQv D A [(a_this, .inr (3, [.ref a_letters, .ref a_sets, .int v_length, .long g_numbers]))]) ([.ref a_this] : List Value).toArray s 0 0 A) (F0 m 0 ls []) by rw [eH, eL] at hG; exact hG
  refine lv_aload_n hx hb dX3_clear_0 rfl (lv_at hl 0 rfl) ?_
  refine lv_iconst (v := 0) hx hb dX3_clear_1 (by decide) ?_
  refine va_put (D := D) (ci := 3) (v := .int (0 : Int32)) (ty := .int) (C := RX3) (T := TX3) (N := 4) hx hb hts z1 tyX3 tyX3_ok nmX3 hown hN.1 hP hD hS 0 rfl rfl 2 (by decide) z2 (fun _ h9 => h9) rfl (by decide +kernel) rfl rfl (Nat.le_of_ble_eq_true rfl) dX3_clear_2 (fun H locs hP hD hS => ?_)
  have hP : va_P D vwCl [(a_this, .inr (3, [.ref a_letters, .ref a_sets, .int (0 : Int32), .long g_numbers]))] H := hP
  have hD : va_D A [(a_this, .inr (3, [.ref a_letters, .ref a_sets, .int (0 : Int32), .long g_numbers]))] := hD
  have hE : (0 : Int32) = v_length := Option.some.inj hf
  subst hE
  exact rtV hx hb hr hlk hP hD hS dX3_clear_5
abbrev rmX3_append : Room := { frames := 0, cells := 0, slots := 0, locals := 0 }
noncomputable def fX3_append (q1 : Int32) (g_length : Int32) (g_letters : Nat → Int32) : Option (Int32 × Int32 × (Nat → Int32)) := br (g_length < (200 : Int32)) (lt_ (g_length + (1 : Int32)) (fun y2 => lt_ ((q1.toUInt32 % 65536).toInt32) (fun y3 => gd (¬ g_length < 0 ∧ g_length.toNatClampNeg < 200) (lt_ (upd g_letters g_length.toNatClampNeg (vp_nar .char y3)) (fun y5 => gd ((1 : Int32) = 0 ∨ (1 : Int32) = 1) (some (((1 : Int32), y2, y5)))))))) (gd ((0 : Int32) = 0 ∨ (0 : Int32) = 1) (some (((0 : Int32), g_length, g_letters))))
set_option maxHeartbeats 4000000 in
set_option maxRecDepth 100000 in
theorem cX3_append_ct (l : Launch) (D : va_G) (cI cL cC cZ : ClassId) (a_this a_letters a_sets : Nat) (g_length : Int32) (g_numbers : Int64) (g_letters : Nat → Int32) (q1 : Int32) (r0 : Int32) (v_length : Int32) (v_letters : Nat → Int32) (hf : fX3_append q1 g_length g_letters = some ((r0, v_length, v_letters))) : CtI l yX3_append wsX3_append rmX3_append D (tyz cI cL cC cZ) [.ref a_this, .int q1] [(a_this, .inr (3, [.ref a_letters, .ref a_sets, .int g_length, .long g_numbers])), (a_letters, .inl (cC, 200, .inl g_letters))] [(a_this, .inr (3, [.ref a_letters, .ref a_sets, .int v_length, .long g_numbers])), (a_letters, .inl (cC, 200, .inl v_letters))] r0 := by
  refine CtI.make (cc := cX3_append) (maxL := 2) (ty := .boolean) (by decide) rfl (Nat.le_of_ble_eq_true rfl) ?_
  intro p e s m below meth c A ls C0 hN hA hP hD hl
  obtain ⟨hx, hb, hr, hml, hown, hts, hlk⟩ := id C0
  have hown : s.vm.findClass RX3 = some m.cls := hown
  have hS : va_S A s.heap s.heap [] := va_S.rf
  have hP : va_P D vwCl [(a_this, .inr (3, [.ref a_letters, .ref a_sets, .int g_length, .long g_numbers])), (a_letters, .inl (cC, 200, .inl g_letters))] s.heap := hP
  have hD : va_D A [(a_this, .inr (3, [.ref a_letters, .ref a_sets, .int g_length, .long g_numbers])), (a_letters, .inl (cC, 200, .inl g_letters))] := hD
  have hl : lv_has ls 2 [(0, .ref a_this), (1, .int q1)] := hl
  have z1 : ∀ w ∈ u_ws RX3 TX3 4, w ∈ wsX3_append := by decide +kernel
  have z2 := hts (.fieldLink RX3 19 "LittleSums$Script" "length" "I") (by decide +kernel)
  have z3 := hts (.fieldLink RX3 11 "LittleSums$Script" "letters" "[C") (by decide +kernel)
  unfold fX3_append at hf
  obtain ⟨H, eH⟩ : ∃ z, z = s.heap := ⟨_, rfl⟩
  obtain ⟨locs, eL⟩ : ∃ z : List Loc, z = [] := ⟨_, rfl⟩
  have hP : va_P D vwCl [(a_this, .inr (3, [.ref a_letters, .ref a_sets, .int g_length, .long g_numbers])), (a_letters, .inl (cC, 200, .inl g_letters))] H := by rw [eH]; exact hP
  have hS : va_S A s.heap H locs := by rw [eH, eL]; exact hS
  suffices hG : W p l e rmX3_append s m ([.ref a_this, .int q1] : List Value).toArray below meth c H locs 0 0 (MQ below (cQi D r0 A [(a_this, .inr (3, [.ref a_letters, .ref a_sets, .int v_length, .long g_numbers])), (a_letters, .inl (cC, 200, .inl v_letters))]) ([.ref a_this, .int q1] : List Value).toArray s 0 0 A) (F0 m 0 ls []) by rw [eH, eL] at hG; exact hG
  refine lv_aload_n hx hb dX3_append_0 rfl (lv_at hl 0 rfl) ?_
  refine va_get (D := D) (ci := 3) (v := .int g_length) (C := RX3) (T := TX3) (N := 4) hx hb hts z1 hown hN.1 hP 0 rfl rfl 2 (by decide) z2 (fun _ h9 => h9) rfl dX3_append_1 ?_
  refine lv_sipush (v := 200) hx hb dX3_append_4 (by decide) ?_
  refine lv_icmp_lt (tgt := 12) hx hb dX3_append_7 (by decide) (fun c1 => ?_) (fun c1 => ?_)
  · have hf := br_pos c1 hf
    refine lv_aload_n hx hb dX3_append_12 rfl (lv_at hl 0 rfl) ?_
    refine va_get (D := D) (ci := 3) (v := .ref a_letters) (C := RX3) (T := TX3) (N := 4) hx hb hts z1 hown hN.1 hP 0 rfl rfl 0 (by decide) z3 (fun _ h9 => h9) rfl dX3_append_13 ?_
    refine lv_aload_n hx hb dX3_append_16 rfl (lv_at hl 0 rfl) ?_
    refine lv_dup hx hb dX3_append_17 rfl ?_
    refine va_get (D := D) (ci := 3) (v := .int g_length) (C := RX3) (T := TX3) (N := 4) hx hb hts z1 hown hN.1 hP 0 rfl rfl 2 (by decide) z2 (fun _ h9 => h9) rfl dX3_append_18 ?_
    refine lv_dup_x1 hx hb dX3_append_21 rfl rfl ?_
    refine lv_iconst (v := 1) hx hb dX3_append_22 (by decide) ?_
    refine lv_iadd hx hb dX3_append_23 ?_
    refine lv_topi (fun y2 ey2 => ?_)
    have hf := lt_some hf y2 ey2
    refine va_put (D := D) (ci := 3) (v := .int y2) (ty := .int) (C := RX3) (T := TX3) (N := 4) hx hb hts z1 tyX3 tyX3_ok nmX3 hown hN.1 hP hD hS 0 rfl rfl 2 (by decide) z2 (fun _ h9 => h9) rfl (by decide +kernel) rfl rfl (Nat.le_of_ble_eq_true rfl) dX3_append_24 (fun H locs hP hD hS => ?_)
    have hP : va_P D vwCl [(a_this, .inr (3, [.ref a_letters, .ref a_sets, .int y2, .long g_numbers])), (a_letters, .inl (cC, 200, .inl g_letters))] H := hP
    have hD : va_D A [(a_this, .inr (3, [.ref a_letters, .ref a_sets, .int y2, .long g_numbers])), (a_letters, .inl (cC, 200, .inl g_letters))] := hD
    refine lv_iload_n hx hb dX3_append_27 rfl (lv_at hl 1 rfl) ?_
    refine lv_i2c hx hb dX3_append_28 rfl ?_
    refine lv_topi (fun y3 ey3 => ?_)
    have hf := lt_some hf y3 ey3
    obtain ⟨c4, hf⟩ := gd_some hf
    refine va_cast hx hb hN.1 hP hD hS 1 2 rfl rfl (ix_in c4) dX3_append_29 (fun H locs hP hD hS => ?_)
    obtain ⟨y5, ey5⟩ : ∃ z, z = upd g_letters g_length.toNatClampNeg (vp_nar .char y3) := ⟨_, rfl⟩
    have hf := lt_some hf y5 ey5
    have hP : va_P D vwCl [(a_this, .inr (3, [.ref a_letters, .ref a_sets, .int y2, .long g_numbers])), (a_letters, .inl (cC, 200, .inl y5))] H := by rw [ey5]; exact hP
    have hD : va_D A [(a_this, .inr (3, [.ref a_letters, .ref a_sets, .int y2, .long g_numbers])), (a_letters, .inl (cC, 200, .inl y5))] := by rw [ey5]; exact hD
    refine lv_iconst (v := 1) hx hb dX3_append_30 (by decide) ?_
    obtain ⟨c6, hf⟩ := gd_some hf
    have hE : ((1 : Int32), y2, y5) = (r0, v_length, v_letters) := Option.some.inj hf
    simp only [Prod.mk.injEq] at hE
    obtain ⟨rfl, rfl, rfl⟩ := hE
    exact rtZ hx hb hr hlk c6 hP hD hS dX3_append_31
  · have hf := br_neg c1 hf
    refine lv_iconst (v := 0) hx hb dX3_append_10 (by decide) ?_
    obtain ⟨c7, hf⟩ := gd_some hf
    have hE : ((0 : Int32), g_length, g_letters) = (r0, v_length, v_letters) := Option.some.inj hf
    simp only [Prod.mk.injEq] at hE
    obtain ⟨rfl, rfl, rfl⟩ := hE
    exact rtZ hx hb hr hlk c7 hP hD hS dX3_append_11
abbrev rmX7_isSlot : Room := { frames := 0, cells := 0, slots := 0, locals := 0 }
noncomputable def bX7_isSlot_13 : Option (Int32) := gd ((0 : Int32) = 0 ∨ (0 : Int32) = 1) (some ((0 : Int32)))
noncomputable def fX7_isSlot (q0 : Int32) : Option (Int32) := br (q0 < 0) (bX7_isSlot_13) (br ((4 : Int32) ≤ q0) (bX7_isSlot_13) (gd ((1 : Int32) = 0 ∨ (1 : Int32) = 1) (some ((1 : Int32)))))
set_option maxHeartbeats 4000000 in
set_option maxRecDepth 100000 in
theorem cX7_isSlot_ct (l : Launch) (D : va_G) (cI cL cC cZ : ClassId) (q0 : Int32) (r0 : Int32) (hf : fX7_isSlot q0 = some r0) : CtI l yX7_isSlot wsX7_isSlot rmX7_isSlot D (tyz cI cL cC cZ) [.int q0] [] [] r0 := by
  refine CtI.make (cc := cX7_isSlot) (maxL := 1) (ty := .boolean) (by decide) rfl (Nat.le_of_ble_eq_true rfl) ?_
  intro p e s m below meth c A ls C0 hN hA hP hD hl
  obtain ⟨hx, hb, hr, hml, hown, hts, hlk⟩ := id C0
  have hown : s.vm.findClass RX7 = some m.cls := hown
  have hS : va_S A s.heap s.heap [] := va_S.rf
  have hP : va_P D vwCl [] s.heap := hP
  have hD : va_D A [] := hD
  have hl : lv_has ls 1 [(0, .int q0)] := hl
  have w13 : ∀ (H : Heap) (locs : List Loc) (ls : Array Slot), bX7_isSlot_13 = some r0 → va_P D vwCl [] H → va_D A [] → va_S A s.heap H locs → lv_has ls 1 [] → W p l e rmX7_isSlot s m ([.int q0] : List Value).toArray below meth c H locs 0 0 (MQ below (cQi D r0 A []) ([.int q0] : List Value).toArray s 0 0 A) (F0 m 13 ls []) := by
    intro  H locs ls hf hP hD hS hl
    unfold bX7_isSlot_13 at hf
    refine lv_iconst (v := 0) hx hb dX7_isSlot_13 (by decide) ?_
    obtain ⟨c1, hf⟩ := gd_some hf
    have hE : (0 : Int32) = r0 := Option.some.inj hf
    subst hE
    exact rtZ hx hb hr hlk c1 hP hD hS dX7_isSlot_14
  unfold fX7_isSlot at hf
  obtain ⟨H, eH⟩ : ∃ z, z = s.heap := ⟨_, rfl⟩
  obtain ⟨locs, eL⟩ : ∃ z : List Loc, z = [] := ⟨_, rfl⟩
  have hP : va_P D vwCl [] H := by rw [eH]; exact hP
  have hS : va_S A s.heap H locs := by rw [eH, eL]; exact hS
  suffices hG : W p l e rmX7_isSlot s m ([.int q0] : List Value).toArray below meth c H locs 0 0 (MQ below (cQi D r0 A []) ([.int q0] : List Value).toArray s 0 0 A) (F0 m 0 ls []) by rw [eH, eL] at hG; exact hG
  refine lv_iload_n hx hb dX7_isSlot_0 rfl (lv_at hl 0 rfl) ?_
  refine lv_if_lt (tgt := 13) hx hb dX7_isSlot_1 (by decide) (fun c2 => ?_) (fun c2 => ?_)
  · have hf := br_pos c2 hf
    exact w13  H locs ls hf hP hD hS (lv_sub hl [] rfl)
  · have hf := br_neg c2 hf
    refine lv_iload_n hx hb dX7_isSlot_4 rfl (lv_at hl 0 rfl) ?_
    refine lv_iconst (v := 4) hx hb dX7_isSlot_5 (by decide) ?_
    refine lv_icmp_ge (tgt := 13) hx hb dX7_isSlot_6 (by decide) (fun c3 => ?_) (fun c3 => ?_)
    · have hf := br_pos c3 hf
      exact w13  H locs ls hf hP hD hS (lv_sub hl [] rfl)
    · have hf := br_neg c3 hf
      refine lv_iconst (v := 1) hx hb dX7_isSlot_9 (by decide) ?_
      refine lv_goto (tgt := 14) hx hb dX7_isSlot_10 (by decide) ?_
      obtain ⟨c4, hf⟩ := gd_some hf
      have hE : (1 : Int32) = r0 := Option.some.inj hf
      subst hE
      exact rtZ hx hb hr hlk c4 hP hD hS dX7_isSlot_14
abbrev rmX3_told : Room := { frames := 1, cells := 0, slots := 0, locals := 20 }
noncomputable def fX3_told (q1 : Int32) (g_sets : Nat → Int64) : Option (Int64) := bd (fX7_isSlot q1) (fun u1 => br (u1 = 0) (some ((0 : Int64))) (gd (¬ q1 < 0 ∧ q1.toNatClampNeg < 4) (some (g_sets q1.toNatClampNeg))))
set_option maxHeartbeats 4000000 in
set_option maxRecDepth 100000 in
theorem cX3_told_ct (l : Launch) (D : va_G) (cI cL cC cZ : ClassId) (a_this a_letters a_sets : Nat) (g_length : Int32) (g_numbers : Int64) (g_sets : Nat → Int64) (q1 : Int32) (r0 : Int64) (hf : fX3_told q1 g_sets = some r0) : CtL l yX3_told wsX3_told rmX3_told D (tyz cI cL cC cZ) [.ref a_this, .int q1] [(a_this, .inr (3, [.ref a_letters, .ref a_sets, .int g_length, .long g_numbers])), (a_sets, .inl (cL, 4, .inr (.inl g_sets)))] [(a_this, .inr (3, [.ref a_letters, .ref a_sets, .int g_length, .long g_numbers])), (a_sets, .inl (cL, 4, .inr (.inl g_sets)))] r0 := by
  refine CtL.make (cc := cX3_told) (maxL := 2) (ty := .long) (by decide) rfl (Nat.le_of_ble_eq_true rfl) ?_
  intro p e s m below meth c A ls C0 hN hA hP hD hl
  obtain ⟨hx, hb, hr, hml, hown, hts, hlk⟩ := id C0
  have hown : s.vm.findClass RX3 = some m.cls := hown
  have hS : va_S A s.heap s.heap [] := va_S.rf
  have hP : va_P D vwCl [(a_this, .inr (3, [.ref a_letters, .ref a_sets, .int g_length, .long g_numbers])), (a_sets, .inl (cL, 4, .inr (.inl g_sets)))] s.heap := hP
  have hD : va_D A [(a_this, .inr (3, [.ref a_letters, .ref a_sets, .int g_length, .long g_numbers])), (a_sets, .inl (cL, 4, .inr (.inl g_sets)))] := hD
  have hl : lv_has ls 2 [(0, .ref a_this), (1, .int q1)] := hl
  have z1 := va_cnB (R := rmX3_told) (rm := rmX7_isSlot) (mc := 0) (ms := 0) 1 hts ggX3_told_X7_isSlot rfl rfl rfl (hN.2 (RX3, 23, yX7_isSlot, "LittleSums") (by decide +kernel)) (hts (.initialized RX7) (by decide +kernel)) (by decide +kernel) ⟨Nat.le_of_ble_eq_true rfl, Nat.le_of_ble_eq_true rfl⟩
  have z2 := hts (.static yX7_isSlot) (by decide +kernel)
  have z3 : ∀ w ∈ u_ws RX3 TX3 4, w ∈ wsX3_told := by decide +kernel
  have z4 := hts (.fieldLink RX3 15 "LittleSums$Script" "sets" "[J") (by decide +kernel)
  unfold fX3_told at hf
  obtain ⟨H, eH⟩ : ∃ z, z = s.heap := ⟨_, rfl⟩
  obtain ⟨locs, eL⟩ : ∃ z : List Loc, z = [] := ⟨_, rfl⟩
  have hP : va_P D vwCl [(a_this, .inr (3, [.ref a_letters, .ref a_sets, .int g_length, .long g_numbers])), (a_sets, .inl (cL, 4, .inr (.inl g_sets)))] H := by rw [eH]; exact hP
  have hS : va_S A s.heap H locs := by rw [eH, eL]; exact hS
  suffices hG : W p l e rmX3_told s m ([.ref a_this, .int q1] : List Value).toArray below meth c H locs 0 0 (MQ below (cQl D r0 A [(a_this, .inr (3, [.ref a_letters, .ref a_sets, .int g_length, .long g_numbers])), (a_sets, .inl (cL, 4, .inr (.inl g_sets)))]) ([.ref a_this, .int q1] : List Value).toArray s 0 0 A) (F0 m 0 ls []) by rw [eH, eL] at hG; exact hG
  refine lv_iload_n hx hb dX3_told_0 rfl (lv_at hl 1 rfl) ?_
  obtain ⟨u1, hu1, hf⟩ := bd_some hf
  refine caNI (rest := []) (As := [.int q1]) (wr := [(a_this, .inr (3, [.ref a_letters, .ref a_sets, .int g_length, .long g_numbers])), (a_sets, .inl (cL, 4, .inr (.inl g_sets)))]) (wo := [(a_this, .inr (3, [.ref a_letters, .ref a_sets, .int g_length, .long g_numbers])), (a_sets, .inl (cL, 4, .inr (.inl g_sets)))]) ⟨hx, hb, hml, hown, hts⟩ hN hP hD hS hA (cX7_isSlot_ct l D cI cL cC cZ q1 u1 hu1) ⟨z1, z2, trivial⟩ [] [0, 1] [0, 1] rfl (by decide) rfl (by decide) (by decide) rfl (by decide) rfl hl.1 rfl (Nat.le_of_ble_eq_true rfl) dX3_told_1 ⟨Nat.zero_le _, Nat.zero_le _⟩ (fun H locs hP hD hS => ?_)
  refine lv_if_eq (tgt := 16) hx hb dX3_told_4 (by decide) (fun c2 => ?_) (fun c2 => ?_)
  · have hf := br_pos c2 hf
    refine lv_lconst (v := 0) hx hb dX3_told_16 (by decide) ?_
    have hE : (0 : Int64) = r0 := Option.some.inj hf
    subst hE
    exact rtL hx hb hr hlk hP hD hS dX3_told_17
  · have hf := br_neg c2 hf
    refine lv_aload_n hx hb dX3_told_7 rfl (lv_at hl 0 rfl) ?_
    refine va_get (D := D) (ci := 3) (v := .ref a_sets) (C := RX3) (T := TX3) (N := 4) hx hb hts z3 hown hN.1 hP 0 rfl rfl 1 (by decide) z4 (fun _ h9 => h9) rfl dX3_told_8 ?_
    refine lv_iload_n hx hb dX3_told_11 rfl (lv_at hl 1 rfl) ?_
    obtain ⟨c3, hf⟩ := gd_some hf
    refine va_lald hx hb hN.1 hP 1 1 rfl rfl (ix_in c3) dX3_told_12 ?_
    refine lv_goto (tgt := 17) hx hb dX3_told_13 (by decide) ?_
    have hE : g_sets q1.toNatClampNeg = r0 := Option.some.inj hf
    subst hE
    exact rtL hx hb hr hlk hP hD hS dX3_told_17
abbrev rmX3_letterAt : Room := { frames := 0, cells := 0, slots := 0, locals := 0 }
noncomputable def bX3_letterAt_28 (g_length : Int32) (g_letters : Nat → Int32) : Option (Int32) := some ((0 : Int32))
noncomputable def fX3_letterAt (q1 : Int32) (g_length : Int32) (g_letters : Nat → Int32) : Option (Int32) := br (q1 < 0) (bX3_letterAt_28 g_length g_letters) (br (g_length ≤ q1) (bX3_letterAt_28 g_length g_letters) (br ((200 : Int32) ≤ q1) (bX3_letterAt_28 g_length g_letters) (gd (¬ q1 < 0 ∧ q1.toNatClampNeg < 200) (some (g_letters q1.toNatClampNeg)))))
set_option maxHeartbeats 4000000 in
set_option maxRecDepth 100000 in
theorem cX3_letterAt_ct (l : Launch) (D : va_G) (cI cL cC cZ : ClassId) (a_this a_letters a_sets : Nat) (g_length : Int32) (g_numbers : Int64) (g_letters : Nat → Int32) (q1 : Int32) (r0 : Int32) (hf : fX3_letterAt q1 g_length g_letters = some r0) : CtI l yX3_letterAt wsX3_letterAt rmX3_letterAt D (tyz cI cL cC cZ) [.ref a_this, .int q1] [(a_this, .inr (3, [.ref a_letters, .ref a_sets, .int g_length, .long g_numbers])), (a_letters, .inl (cC, 200, .inl g_letters))] [(a_this, .inr (3, [.ref a_letters, .ref a_sets, .int g_length, .long g_numbers])), (a_letters, .inl (cC, 200, .inl g_letters))] r0 := by
  refine CtI.make (cc := cX3_letterAt) (maxL := 2) (ty := .int) (by decide) rfl (Nat.le_of_ble_eq_true rfl) ?_
  intro p e s m below meth c A ls C0 hN hA hP hD hl
  obtain ⟨hx, hb, hr, hml, hown, hts, hlk⟩ := id C0
  have hown : s.vm.findClass RX3 = some m.cls := hown
  have hS : va_S A s.heap s.heap [] := va_S.rf
  have hP : va_P D vwCl [(a_this, .inr (3, [.ref a_letters, .ref a_sets, .int g_length, .long g_numbers])), (a_letters, .inl (cC, 200, .inl g_letters))] s.heap := hP
  have hD : va_D A [(a_this, .inr (3, [.ref a_letters, .ref a_sets, .int g_length, .long g_numbers])), (a_letters, .inl (cC, 200, .inl g_letters))] := hD
  have hl : lv_has ls 2 [(0, .ref a_this), (1, .int q1)] := hl
  have z1 : ∀ w ∈ u_ws RX3 TX3 4, w ∈ wsX3_letterAt := by decide +kernel
  have z2 := hts (.fieldLink RX3 19 "LittleSums$Script" "length" "I") (by decide +kernel)
  have z3 := hts (.fieldLink RX3 11 "LittleSums$Script" "letters" "[C") (by decide +kernel)
  have w28 : ∀ (g_length : Int32) (g_letters : Nat → Int32) (H : Heap) (locs : List Loc) (ls : Array Slot), bX3_letterAt_28 g_length g_letters = some r0 → va_P D vwCl [(a_this, .inr (3, [.ref a_letters, .ref a_sets, .int g_length, .long g_numbers])), (a_letters, .inl (cC, 200, .inl g_letters))] H → va_D A [(a_this, .inr (3, [.ref a_letters, .ref a_sets, .int g_length, .long g_numbers])), (a_letters, .inl (cC, 200, .inl g_letters))] → va_S A s.heap H locs → lv_has ls 2 [] → W p l e rmX3_letterAt s m ([.ref a_this, .int q1] : List Value).toArray below meth c H locs 0 0 (MQ below (cQi D r0 A [(a_this, .inr (3, [.ref a_letters, .ref a_sets, .int g_length, .long g_numbers])), (a_letters, .inl (cC, 200, .inl g_letters))]) ([.ref a_this, .int q1] : List Value).toArray s 0 0 A) (F0 m 28 ls []) := by
    intro g_length g_letters H locs ls hf hP hD hS hl
    unfold bX3_letterAt_28 at hf
    refine lv_iconst (v := 0) hx hb dX3_letterAt_28 (by decide) ?_
    have hE : (0 : Int32) = r0 := Option.some.inj hf
    subst hE
    exact rtI hx hb hr hlk hP hD hS dX3_letterAt_29
  unfold fX3_letterAt at hf
  obtain ⟨H, eH⟩ : ∃ z, z = s.heap := ⟨_, rfl⟩
  obtain ⟨locs, eL⟩ : ∃ z : List Loc, z = [] := ⟨_, rfl⟩
  have hP : va_P D vwCl [(a_this, .inr (3, [.ref a_letters, .ref a_sets, .int g_length, .long g_numbers])), (a_letters, .inl (cC, 200, .inl g_letters))] H := by rw [eH]; exact hP
  have hS : va_S A s.heap H locs := by rw [eH, eL]; exact hS
  suffices hG : W p l e rmX3_letterAt s m ([.ref a_this, .int q1] : List Value).toArray below meth c H locs 0 0 (MQ below (cQi D r0 A [(a_this, .inr (3, [.ref a_letters, .ref a_sets, .int g_length, .long g_numbers])), (a_letters, .inl (cC, 200, .inl g_letters))]) ([.ref a_this, .int q1] : List Value).toArray s 0 0 A) (F0 m 0 ls []) by rw [eH, eL] at hG; exact hG
  refine lv_iload_n hx hb dX3_letterAt_0 rfl (lv_at hl 1 rfl) ?_
  refine lv_if_lt (tgt := 28) hx hb dX3_letterAt_1 (by decide) (fun c1 => ?_) (fun c1 => ?_)
  · have hf := br_pos c1 hf
    exact w28 g_length g_letters H locs ls hf hP hD hS (lv_sub hl [] rfl)
  · have hf := br_neg c1 hf
    refine lv_iload_n hx hb dX3_letterAt_4 rfl (lv_at hl 1 rfl) ?_
    refine lv_aload_n hx hb dX3_letterAt_5 rfl (lv_at hl 0 rfl) ?_
    refine va_get (D := D) (ci := 3) (v := .int g_length) (C := RX3) (T := TX3) (N := 4) hx hb hts z1 hown hN.1 hP 0 rfl rfl 2 (by decide) z2 (fun _ h9 => h9) rfl dX3_letterAt_6 ?_
    refine lv_icmp_ge (tgt := 28) hx hb dX3_letterAt_9 (by decide) (fun c2 => ?_) (fun c2 => ?_)
    · have hf := br_pos c2 hf
      exact w28 g_length g_letters H locs ls hf hP hD hS (lv_sub hl [] rfl)
    · have hf := br_neg c2 hf
      refine lv_iload_n hx hb dX3_letterAt_12 rfl (lv_at hl 1 rfl) ?_
      refine lv_sipush (v := 200) hx hb dX3_letterAt_13 (by decide) ?_
      refine lv_icmp_ge (tgt := 28) hx hb dX3_letterAt_16 (by decide) (fun c3 => ?_) (fun c3 => ?_)
      · have hf := br_pos c3 hf
        exact w28 g_length g_letters H locs ls hf hP hD hS (lv_sub hl [] rfl)
      · have hf := br_neg c3 hf
        refine lv_aload_n hx hb dX3_letterAt_19 rfl (lv_at hl 0 rfl) ?_
        refine va_get (D := D) (ci := 3) (v := .ref a_letters) (C := RX3) (T := TX3) (N := 4) hx hb hts z1 hown hN.1 hP 0 rfl rfl 0 (by decide) z3 (fun _ h9 => h9) rfl dX3_letterAt_20 ?_
        refine lv_iload_n hx hb dX3_letterAt_23 rfl (lv_at hl 1 rfl) ?_
        obtain ⟨c4, hf⟩ := gd_some hf
        refine va_cald hx hb hN.1 hP 1 2 rfl rfl (ix_in c4) dX3_letterAt_24 ?_
        refine lv_goto (tgt := 29) hx hb dX3_letterAt_25 (by decide) ?_
        have hE : g_letters q1.toNatClampNeg = r0 := Option.some.inj hf
        subst hE
        exact rtI hx hb hr hlk hP hD hS dX3_letterAt_29
abbrev rmX3_isFigure : Room := { frames := 1, cells := 0, slots := 0, locals := 21 }
noncomputable def bX3_isFigure_22 (g_length : Int32) (g_letters : Nat → Int32) : Option (Int32) := gd ((0 : Int32) = 0 ∨ (0 : Int32) = 1) (some ((0 : Int32)))
noncomputable def fX3_isFigure (q1 : Int32) (g_length : Int32) (g_letters : Nat → Int32) : Option (Int32) := bd (fX3_letterAt q1 g_length g_letters) (fun u2 => br (u2 < (48 : Int32)) (bX3_isFigure_22 g_length g_letters) (br ((57 : Int32) < u2) (bX3_isFigure_22 g_length g_letters) (gd ((1 : Int32) = 0 ∨ (1 : Int32) = 1) (some ((1 : Int32))))))
set_option maxHeartbeats 4000000 in
set_option maxRecDepth 100000 in
theorem cX3_isFigure_ct (l : Launch) (D : va_G) (cI cL cC cZ : ClassId) (a_this a_letters a_sets : Nat) (g_length : Int32) (g_numbers : Int64) (g_letters : Nat → Int32) (q1 : Int32) (r0 : Int32) (hf : fX3_isFigure q1 g_length g_letters = some r0) : CtI l yX3_isFigure wsX3_isFigure rmX3_isFigure D (tyz cI cL cC cZ) [.ref a_this, .int q1] [(a_this, .inr (3, [.ref a_letters, .ref a_sets, .int g_length, .long g_numbers])), (a_letters, .inl (cC, 200, .inl g_letters))] [(a_this, .inr (3, [.ref a_letters, .ref a_sets, .int g_length, .long g_numbers])), (a_letters, .inl (cC, 200, .inl g_letters))] r0 := by
  refine CtI.make (cc := cX3_isFigure) (maxL := 3) (ty := .boolean) (by decide) rfl (Nat.le_of_ble_eq_true rfl) ?_
  intro p e s m below meth c A ls C0 hN hA hP hD hl
  obtain ⟨hx, hb, hr, hml, hown, hts, hlk⟩ := id C0
  have hown : s.vm.findClass RX3 = some m.cls := hown
  have hS : va_S A s.heap s.heap [] := va_S.rf
  have hP : va_P D vwCl [(a_this, .inr (3, [.ref a_letters, .ref a_sets, .int g_length, .long g_numbers])), (a_letters, .inl (cC, 200, .inl g_letters))] s.heap := hP
  have hD : va_D A [(a_this, .inr (3, [.ref a_letters, .ref a_sets, .int g_length, .long g_numbers])), (a_letters, .inl (cC, 200, .inl g_letters))] := hD
  have hl : lv_has ls 3 [(0, .ref a_this), (1, .int q1)] := hl
  have z1 := cwV (R := rmX3_isFigure) (rm := rmX3_letterAt) (mc := 0) (ms := 0) 1 hts gX3_isFigure_X3_letterAt rfl rfl rfl (by decide +kernel) ⟨Nat.le_of_ble_eq_true rfl, Nat.le_of_ble_eq_true rfl⟩
  have w22 : ∀ (g_length : Int32) (g_letters : Nat → Int32) (H : Heap) (locs : List Loc) (ls : Array Slot), bX3_isFigure_22 g_length g_letters = some r0 → va_P D vwCl [(a_this, .inr (3, [.ref a_letters, .ref a_sets, .int g_length, .long g_numbers])), (a_letters, .inl (cC, 200, .inl g_letters))] H → va_D A [(a_this, .inr (3, [.ref a_letters, .ref a_sets, .int g_length, .long g_numbers])), (a_letters, .inl (cC, 200, .inl g_letters))] → va_S A s.heap H locs → lv_has ls 3 [] → W p l e rmX3_isFigure s m ([.ref a_this, .int q1] : List Value).toArray below meth c H locs 0 0 (MQ below (cQi D r0 A [(a_this, .inr (3, [.ref a_letters, .ref a_sets, .int g_length, .long g_numbers])), (a_letters, .inl (cC, 200, .inl g_letters))]) ([.ref a_this, .int q1] : List Value).toArray s 0 0 A) (F0 m 22 ls []) := by
    intro g_length g_letters H locs ls hf hP hD hS hl
    unfold bX3_isFigure_22 at hf
    refine lv_iconst (v := 0) hx hb dX3_isFigure_22 (by decide) ?_
    obtain ⟨c1, hf⟩ := gd_some hf
    have hE : (0 : Int32) = r0 := Option.some.inj hf
    subst hE
    exact rtZ hx hb hr hlk c1 hP hD hS dX3_isFigure_23
  unfold fX3_isFigure at hf
  obtain ⟨H, eH⟩ : ∃ z, z = s.heap := ⟨_, rfl⟩
  obtain ⟨locs, eL⟩ : ∃ z : List Loc, z = [] := ⟨_, rfl⟩
  have hP : va_P D vwCl [(a_this, .inr (3, [.ref a_letters, .ref a_sets, .int g_length, .long g_numbers])), (a_letters, .inl (cC, 200, .inl g_letters))] H := by rw [eH]; exact hP
  have hS : va_S A s.heap H locs := by rw [eH, eL]; exact hS
  suffices hG : W p l e rmX3_isFigure s m ([.ref a_this, .int q1] : List Value).toArray below meth c H locs 0 0 (MQ below (cQi D r0 A [(a_this, .inr (3, [.ref a_letters, .ref a_sets, .int g_length, .long g_numbers])), (a_letters, .inl (cC, 200, .inl g_letters))]) ([.ref a_this, .int q1] : List Value).toArray s 0 0 A) (F0 m 0 ls []) by rw [eH, eL] at hG; exact hG
  refine lv_aload_n hx hb dX3_isFigure_0 rfl (lv_at hl 0 rfl) ?_
  refine lv_iload_n hx hb dX3_isFigure_1 rfl (lv_at hl 1 rfl) ?_
  obtain ⟨u2, hu2, hf⟩ := bd_some hf
  refine caVI (rest := []) (As := [.int q1]) (wr := []) (wo := [(a_this, .inr (3, [.ref a_letters, .ref a_sets, .int g_length, .long g_numbers])), (a_letters, .inl (cC, 200, .inl g_letters))]) ⟨hx, hb, hml, hown, hts⟩ hN hP hD hS hA (cX3_letterAt_ct l D cI cL cC cZ a_this a_letters a_sets g_length g_numbers g_letters q1 u2 hu2) z1 0 3 rfl rfl [0, 1] [] [0, 1] rfl (by decide) rfl (by decide) (by decide) rfl (by decide) rfl hl.1 rfl (Nat.le_of_ble_eq_true rfl) dX3_isFigure_2 ⟨Nat.zero_le _, Nat.zero_le _⟩ (fun H locs hP hD hS => ?_)
  refine lv_istore_n (lv' := [(2, .int u2), (0, .ref a_this), (1, .int q1)]) hx hb dX3_isFigure_5 rfl hl (by decide) rfl (fun ls hl => ?_)
  refine lv_iload_n hx hb dX3_isFigure_6 rfl (lv_at hl 0 rfl) ?_
  refine lv_bipush (v := 48) hx hb dX3_isFigure_7 (by decide) ?_
  refine lv_icmp_lt (tgt := 22) hx hb dX3_isFigure_9 (by decide) (fun c3 => ?_) (fun c3 => ?_)
  · have hf := br_pos c3 hf
    exact w22 g_length g_letters H locs ls hf hP hD hS (lv_sub hl [] rfl)
  · have hf := br_neg c3 hf
    refine lv_iload_n hx hb dX3_isFigure_12 rfl (lv_at hl 0 rfl) ?_
    refine lv_bipush (v := 57) hx hb dX3_isFigure_13 (by decide) ?_
    refine lv_icmp_gt (tgt := 22) hx hb dX3_isFigure_15 (by decide) (fun c4 => ?_) (fun c4 => ?_)
    · have hf := br_pos c4 hf
      exact w22 g_length g_letters H locs ls hf hP hD hS (lv_sub hl [] rfl)
    · have hf := br_neg c4 hf
      refine lv_iconst (v := 1) hx hb dX3_isFigure_18 (by decide) ?_
      refine lv_goto (tgt := 23) hx hb dX3_isFigure_19 (by decide) ?_
      obtain ⟨c5, hf⟩ := gd_some hf
      have hE : (1 : Int32) = r0 := Option.some.inj hf
      subst hE
      exact rtZ hx hb hr hlk c5 hP hD hS dX3_isFigure_23
abbrev rmX3_figuresAt : Room := { frames := 2, cells := 0, slots := 0, locals := 43 }
noncomputable def fX3_figuresAt (q1 : Int32) (g_length : Int32) (g_letters : Nat → Int32) : Option (Int32) := bd (fX3_isFigure q1 g_length g_letters) (fun u1 => br (u1 = 0) (some ((0 : Int32))) (bd (fX3_isFigure (q1 + (1 : Int32)) g_length g_letters) (fun u3 => br (u3 = 0) (some ((1 : Int32))) (some ((2 : Int32))))))
set_option maxHeartbeats 4000000 in
set_option maxRecDepth 100000 in
theorem cX3_figuresAt_ct (l : Launch) (D : va_G) (cI cL cC cZ : ClassId) (a_this a_letters a_sets : Nat) (g_length : Int32) (g_numbers : Int64) (g_letters : Nat → Int32) (q1 : Int32) (r0 : Int32) (hf : fX3_figuresAt q1 g_length g_letters = some r0) : CtI l yX3_figuresAt wsX3_figuresAt rmX3_figuresAt D (tyz cI cL cC cZ) [.ref a_this, .int q1] [(a_this, .inr (3, [.ref a_letters, .ref a_sets, .int g_length, .long g_numbers])), (a_letters, .inl (cC, 200, .inl g_letters))] [(a_this, .inr (3, [.ref a_letters, .ref a_sets, .int g_length, .long g_numbers])), (a_letters, .inl (cC, 200, .inl g_letters))] r0 := by
  refine CtI.make (cc := cX3_figuresAt) (maxL := 2) (ty := .int) (by decide) rfl (Nat.le_of_ble_eq_true rfl) ?_
  intro p e s m below meth c A ls C0 hN hA hP hD hl
  obtain ⟨hx, hb, hr, hml, hown, hts, hlk⟩ := id C0
  have hown : s.vm.findClass RX3 = some m.cls := hown
  have hS : va_S A s.heap s.heap [] := va_S.rf
  have hP : va_P D vwCl [(a_this, .inr (3, [.ref a_letters, .ref a_sets, .int g_length, .long g_numbers])), (a_letters, .inl (cC, 200, .inl g_letters))] s.heap := hP
  have hD : va_D A [(a_this, .inr (3, [.ref a_letters, .ref a_sets, .int g_length, .long g_numbers])), (a_letters, .inl (cC, 200, .inl g_letters))] := hD
  have hl : lv_has ls 2 [(0, .ref a_this), (1, .int q1)] := hl
  have z1 := cwV (R := rmX3_figuresAt) (rm := rmX3_isFigure) (mc := 0) (ms := 0) 1 hts gX3_figuresAt_X3_isFigure rfl rfl rfl (by decide +kernel) ⟨Nat.le_of_ble_eq_true rfl, Nat.le_of_ble_eq_true rfl⟩
  unfold fX3_figuresAt at hf
  obtain ⟨H, eH⟩ : ∃ z, z = s.heap := ⟨_, rfl⟩
  obtain ⟨locs, eL⟩ : ∃ z : List Loc, z = [] := ⟨_, rfl⟩
  have hP : va_P D vwCl [(a_this, .inr (3, [.ref a_letters, .ref a_sets, .int g_length, .long g_numbers])), (a_letters, .inl (cC, 200, .inl g_letters))] H := by rw [eH]; exact hP
  have hS : va_S A s.heap H locs := by rw [eH, eL]; exact hS
  suffices hG : W p l e rmX3_figuresAt s m ([.ref a_this, .int q1] : List Value).toArray below meth c H locs 0 0 (MQ below (cQi D r0 A [(a_this, .inr (3, [.ref a_letters, .ref a_sets, .int g_length, .long g_numbers])), (a_letters, .inl (cC, 200, .inl g_letters))]) ([.ref a_this, .int q1] : List Value).toArray s 0 0 A) (F0 m 0 ls []) by rw [eH, eL] at hG; exact hG
  refine lv_aload_n hx hb dX3_figuresAt_0 rfl (lv_at hl 0 rfl) ?_
  refine lv_iload_n hx hb dX3_figuresAt_1 rfl (lv_at hl 1 rfl) ?_
  obtain ⟨u1, hu1, hf⟩ := bd_some hf
  refine caVI (rest := []) (As := [.int q1]) (wr := []) (wo := [(a_this, .inr (3, [.ref a_letters, .ref a_sets, .int g_length, .long g_numbers])), (a_letters, .inl (cC, 200, .inl g_letters))]) ⟨hx, hb, hml, hown, hts⟩ hN hP hD hS hA (cX3_isFigure_ct l D cI cL cC cZ a_this a_letters a_sets g_length g_numbers g_letters q1 u1 hu1) z1 0 3 rfl rfl [0, 1] [] [0, 1] rfl (by decide) rfl (by decide) (by decide) rfl (by decide) rfl hl.1 rfl (Nat.le_of_ble_eq_true rfl) dX3_figuresAt_2 ⟨Nat.zero_le _, Nat.zero_le _⟩ (fun H locs hP hD hS => ?_)
  refine lv_if_ne (tgt := 10) hx hb dX3_figuresAt_5 (by decide) (fun c2 => ?_) (fun c2 => ?_)
  · have hf := br_neg c2 hf
    refine lv_aload_n hx hb dX3_figuresAt_10 rfl (lv_at hl 0 rfl) ?_
    refine lv_iload_n hx hb dX3_figuresAt_11 rfl (lv_at hl 1 rfl) ?_
    refine lv_iconst (v := 1) hx hb dX3_figuresAt_12 (by decide) ?_
    refine lv_iadd hx hb dX3_figuresAt_13 ?_
    obtain ⟨u3, hu3, hf⟩ := bd_some hf
    refine caVI (rest := []) (As := [.int (q1 + (1 : Int32))]) (wr := []) (wo := [(a_this, .inr (3, [.ref a_letters, .ref a_sets, .int g_length, .long g_numbers])), (a_letters, .inl (cC, 200, .inl g_letters))]) ⟨hx, hb, hml, hown, hts⟩ hN hP hD hS hA (cX3_isFigure_ct l D cI cL cC cZ a_this a_letters a_sets g_length g_numbers g_letters (q1 + (1 : Int32)) u3 hu3) z1 0 3 rfl rfl [0, 1] [] [0, 1] rfl (by decide) rfl (by decide) (by decide) rfl (by decide) rfl hl.1 rfl (Nat.le_of_ble_eq_true rfl) dX3_figuresAt_14 ⟨Nat.zero_le _, Nat.zero_le _⟩ (fun H locs hP hD hS => ?_)
    refine lv_if_eq (tgt := 24) hx hb dX3_figuresAt_17 (by decide) (fun c4 => ?_) (fun c4 => ?_)
    · have hf := br_pos c4 hf
      refine lv_iconst (v := 1) hx hb dX3_figuresAt_24 (by decide) ?_
      have hE : (1 : Int32) = r0 := Option.some.inj hf
      subst hE
      exact rtI hx hb hr hlk hP hD hS dX3_figuresAt_25
    · have hf := br_neg c4 hf
      refine lv_iconst (v := 2) hx hb dX3_figuresAt_20 (by decide) ?_
      refine lv_goto (tgt := 25) hx hb dX3_figuresAt_21 (by decide) ?_
      have hE : (2 : Int32) = r0 := Option.some.inj hf
      subst hE
      exact rtI hx hb hr hlk hP hD hS dX3_figuresAt_25
  · have hf := br_pos c2 hf
    refine lv_iconst (v := 0) hx hb dX3_figuresAt_8 (by decide) ?_
    have hE : (0 : Int32) = r0 := Option.some.inj hf
    subst hE
    exact rtI hx hb hr hlk hP hD hS dX3_figuresAt_9
abbrev rmX3_valueAt : Room := { frames := 1, cells := 0, slots := 0, locals := 21 }
noncomputable def bX3_valueAt_5 (x1 : Int32) (x2 : Int32) (g_length : Int32) (g_letters : Nat → Int32) (x3 : Int32) (x4 : Int32) : Option ((Int32 × Int32) ⊕ (Int32)) := br (x2 ≤ x4) (some (Sum.inr (x3))) (bd (fX3_letterAt (x1 + x4) g_length g_letters) (fun u2 => lt_ ((((10 : Int32) * x3) + u2) - (48 : Int32)) (fun y3 => lt_ (x4 + (1 : Int32)) (fun y4 => some (Sum.inl ((y3, y4)))))))
noncomputable def sX3_valueAt_5 (x1 : Int32) (x2 : Int32) (g_length : Int32) (g_letters : Nat → Int32) : (Int32 × Int32) → Option ((Int32 × Int32) ⊕ (Int32)) := fun q => bX3_valueAt_5 x1 x2 g_length g_letters q.1 q.2
noncomputable def fX3_valueAt (q1 : Int32) (q2 : Int32) (g_length : Int32) (g_letters : Nat → Int32) : Option (Int32) := run (sX3_valueAt_5 q1 q2 g_length g_letters) (((0 : Int32), (0 : Int32)))
set_option maxHeartbeats 4000000 in
set_option maxRecDepth 100000 in
theorem cX3_valueAt_ct (l : Launch) (D : va_G) (cI cL cC cZ : ClassId) (a_this a_letters a_sets : Nat) (g_length : Int32) (g_numbers : Int64) (g_letters : Nat → Int32) (q1 : Int32) (q2 : Int32) (r0 : Int32) (hf : fX3_valueAt q1 q2 g_length g_letters = some r0) : CtI l yX3_valueAt wsX3_valueAt rmX3_valueAt D (tyz cI cL cC cZ) [.ref a_this, .int q1, .int q2] [(a_this, .inr (3, [.ref a_letters, .ref a_sets, .int g_length, .long g_numbers])), (a_letters, .inl (cC, 200, .inl g_letters))] [(a_this, .inr (3, [.ref a_letters, .ref a_sets, .int g_length, .long g_numbers])), (a_letters, .inl (cC, 200, .inl g_letters))] r0 := by
  refine CtI.make (cc := cX3_valueAt) (maxL := 5) (ty := .int) (by decide) rfl (Nat.le_of_ble_eq_true rfl) ?_
  intro p e s m below meth c A ls C0 hN hA hP hD hl
  obtain ⟨hx, hb, hr, hml, hown, hts, hlk⟩ := id C0
  have hown : s.vm.findClass RX3 = some m.cls := hown
  have hS : va_S A s.heap s.heap [] := va_S.rf
  have hP : va_P D vwCl [(a_this, .inr (3, [.ref a_letters, .ref a_sets, .int g_length, .long g_numbers])), (a_letters, .inl (cC, 200, .inl g_letters))] s.heap := hP
  have hD : va_D A [(a_this, .inr (3, [.ref a_letters, .ref a_sets, .int g_length, .long g_numbers])), (a_letters, .inl (cC, 200, .inl g_letters))] := hD
  have hl : lv_has ls 5 [(0, .ref a_this), (1, .int q1), (2, .int q2)] := hl
  have z1 := cwV (R := rmX3_valueAt) (rm := rmX3_letterAt) (mc := 0) (ms := 0) 1 hts gX3_valueAt_X3_letterAt rfl rfl rfl (by decide +kernel) ⟨Nat.le_of_ble_eq_true rfl, Nat.le_of_ble_eq_true rfl⟩
  have w5 : ∀ (x1 : Int32) (x2 : Int32) (g_length : Int32) (g_letters : Nat → Int32) (x3 : Int32) (x4 : Int32) (t : Int32) (H : Heap) (locs : List Loc) (ls : Array Slot), run (sX3_valueAt_5 x1 x2 g_length g_letters) ((x3, x4)) = some t → (fun z => z = r0) t → va_P D vwCl [(a_this, .inr (3, [.ref a_letters, .ref a_sets, .int g_length, .long g_numbers])), (a_letters, .inl (cC, 200, .inl g_letters))] H → va_D A [(a_this, .inr (3, [.ref a_letters, .ref a_sets, .int g_length, .long g_numbers])), (a_letters, .inl (cC, 200, .inl g_letters))] → va_S A s.heap H locs → lv_has ls 5 [(0, .ref a_this), (1, .int x1), (2, .int x2), (3, .int x3), (4, .int x4)] → W p l e rmX3_valueAt s m ([.ref a_this, .int q1, .int q2] : List Value).toArray below meth c H locs 0 0 (MQ below (cQi D r0 A [(a_this, .inr (3, [.ref a_letters, .ref a_sets, .int g_length, .long g_numbers])), (a_letters, .inl (cC, 200, .inl g_letters))]) ([.ref a_this, .int q1, .int q2] : List Value).toArray s 0 0 A) (F0 m 5 ls []) := by
    intro x1 x2 g_length g_letters
    obtain ⟨F5, eF5⟩ : ∃ F : (Int32 × Int32) → Prop, F = fun q => ∀ (H : Heap) (locs : List Loc) (ls : Array Slot), va_P D vwCl [(a_this, .inr (3, [.ref a_letters, .ref a_sets, .int g_length, .long g_numbers])), (a_letters, .inl (cC, 200, .inl g_letters))] H → va_D A [(a_this, .inr (3, [.ref a_letters, .ref a_sets, .int g_length, .long g_numbers])), (a_letters, .inl (cC, 200, .inl g_letters))] → va_S A s.heap H locs → lv_has ls 5 [(0, .ref a_this), (1, .int x1), (2, .int x2), (3, .int q.1), (4, .int q.2)] → W p l e rmX3_valueAt s m ([.ref a_this, .int q1, .int q2] : List Value).toArray below meth c H locs 0 0 (MQ below (cQi D r0 A [(a_this, .inr (3, [.ref a_letters, .ref a_sets, .int g_length, .long g_numbers])), (a_letters, .inl (cC, 200, .inl g_letters))]) ([.ref a_this, .int q1, .int q2] : List Value).toArray s 0 0 A) (F0 m 5 ls []) := ⟨_, rfl⟩
    have key : ∀ (q : Int32 × Int32) (t : Int32), run (sX3_valueAt_5 x1 x2 g_length g_letters) q = some t → (fun z => z = r0) t → F5 q := by
      refine loop_rule (sX3_valueAt_5 x1 x2 g_length g_letters) F5 (fun z => z = r0) ?_
      intro q t hf hF
      have hF : (Sum.elim F5 (fun z => z = r0)) t := hF
      rw [eF5]
      obtain ⟨x3, x4⟩ := q
      intro H locs ls hP hD hS hl
      have hP : va_P D vwCl [(a_this, .inr (3, [.ref a_letters, .ref a_sets, .int g_length, .long g_numbers])), (a_letters, .inl (cC, 200, .inl g_letters))] H := hP
      have hD : va_D A [(a_this, .inr (3, [.ref a_letters, .ref a_sets, .int g_length, .long g_numbers])), (a_letters, .inl (cC, 200, .inl g_letters))] := hD
      have hl : lv_has ls 5 [(0, .ref a_this), (1, .int x1), (2, .int x2), (3, .int x3), (4, .int x4)] := hl
      have hf : bX3_valueAt_5 x1 x2 g_length g_letters x3 x4 = some t := hf
      unfold bX3_valueAt_5 at hf
      refine lv_iload hx hb dX3_valueAt_5 (lv_at hl 4 rfl) ?_
      refine lv_iload_n hx hb dX3_valueAt_7 rfl (lv_at hl 2 rfl) ?_
      refine lv_icmp_ge (tgt := 34) hx hb dX3_valueAt_8 (by decide) (fun c1 => ?_) (fun c1 => ?_)
      · have hf := br_pos c1 hf
        refine lv_iload_n hx hb dX3_valueAt_34 rfl (lv_at hl 3 rfl) ?_
        cases hf
        have hE : x3 = r0 := hF
        subst hE
        exact rtI hx hb hr hlk hP hD hS dX3_valueAt_35
      · have hf := br_neg c1 hf
        refine lv_bipush (v := 10) hx hb dX3_valueAt_11 (by decide) ?_
        refine lv_iload_n hx hb dX3_valueAt_13 rfl (lv_at hl 3 rfl) ?_
        refine lv_imul hx hb dX3_valueAt_14 ?_
        refine lv_aload_n hx hb dX3_valueAt_15 rfl (lv_at hl 0 rfl) ?_
        refine lv_iload_n hx hb dX3_valueAt_16 rfl (lv_at hl 1 rfl) ?_
        refine lv_iload hx hb dX3_valueAt_17 (lv_at hl 4 rfl) ?_
        refine lv_iadd hx hb dX3_valueAt_19 ?_
        obtain ⟨u2, hu2, hf⟩ := bd_some hf
        refine caVI (rest := [.int ((10 : Int32) * x3)]) (As := [.int (x1 + x4)]) (wr := []) (wo := [(a_this, .inr (3, [.ref a_letters, .ref a_sets, .int g_length, .long g_numbers])), (a_letters, .inl (cC, 200, .inl g_letters))]) ⟨hx, hb, hml, hown, hts⟩ hN hP hD hS hA (cX3_letterAt_ct l D cI cL cC cZ a_this a_letters a_sets g_length g_numbers g_letters (x1 + x4) u2 hu2) z1 0 3 rfl rfl [0, 1] [] [0, 1] rfl (by decide) rfl (by decide) (by decide) rfl (by decide) rfl hl.1 rfl (Nat.le_of_ble_eq_true rfl) dX3_valueAt_20 ⟨Nat.zero_le _, Nat.zero_le _⟩ (fun H locs hP hD hS => ?_)
        refine lv_iadd hx hb dX3_valueAt_23 ?_
        refine lv_bipush (v := 48) hx hb dX3_valueAt_24 (by decide) ?_
        refine lv_isub hx hb dX3_valueAt_26 ?_
        refine lv_topi (fun y3 ey3 => ?_)
        have hf := lt_some hf y3 ey3
        refine lv_istore_n (lv' := [(3, .int y3), (0, .ref a_this), (1, .int x1), (2, .int x2), (4, .int x4)]) hx hb dX3_valueAt_27 rfl hl (by decide) rfl (fun ls hl => ?_)
        obtain ⟨y4, ey4⟩ : ∃ z : Int32, z = x4 + (1 : Int32) := ⟨_, rfl⟩
        have hf := lt_some hf y4 ey4
        refine lv_iinc (v := y4) (lv' := [(4, .int y4), (3, .int y3), (0, .ref a_this), (1, .int x1), (2, .int x2)]) hx hb dX3_valueAt_28 hl (k := 4) rfl (by rw [ey4]; rfl) (by decide) rfl (fun ls hl => ?_)
        refine lv_goto (tgt := 5) hx hb dX3_valueAt_31 (by decide) ?_
        cases hf
        exact ((congrFun eF5 _).mp hF) H locs ls hP hD hS (lv_sub hl [2, 3, 4, 1, 0] rfl)
    intro x3 x4 t H locs ls hf hF hP hD hS hl
    exact ((congrFun eF5 _).mp (key ((x3, x4)) t hf hF)) H locs ls hP hD hS hl
  unfold fX3_valueAt at hf
  obtain ⟨H, eH⟩ : ∃ z, z = s.heap := ⟨_, rfl⟩
  obtain ⟨locs, eL⟩ : ∃ z : List Loc, z = [] := ⟨_, rfl⟩
  have hP : va_P D vwCl [(a_this, .inr (3, [.ref a_letters, .ref a_sets, .int g_length, .long g_numbers])), (a_letters, .inl (cC, 200, .inl g_letters))] H := by rw [eH]; exact hP
  have hS : va_S A s.heap H locs := by rw [eH, eL]; exact hS
  suffices hG : W p l e rmX3_valueAt s m ([.ref a_this, .int q1, .int q2] : List Value).toArray below meth c H locs 0 0 (MQ below (cQi D r0 A [(a_this, .inr (3, [.ref a_letters, .ref a_sets, .int g_length, .long g_numbers])), (a_letters, .inl (cC, 200, .inl g_letters))]) ([.ref a_this, .int q1, .int q2] : List Value).toArray s 0 0 A) (F0 m 0 ls []) by rw [eH, eL] at hG; exact hG
  refine lv_iconst (v := 0) hx hb dX3_valueAt_0 (by decide) ?_
  refine lv_istore_n (lv' := [(3, .int (0 : Int32)), (0, .ref a_this), (1, .int q1), (2, .int q2)]) hx hb dX3_valueAt_1 rfl hl (by decide) rfl (fun ls hl => ?_)
  refine lv_iconst (v := 0) hx hb dX3_valueAt_2 (by decide) ?_
  refine lv_istore (lv' := [(4, .int (0 : Int32)), (3, .int (0 : Int32)), (0, .ref a_this), (1, .int q1), (2, .int q2)]) hx hb dX3_valueAt_3 hl (by decide) rfl (fun ls hl => ?_)
  exact w5 q1 q2 g_length g_letters (0 : Int32) (0 : Int32) r0 H locs ls hf rfl hP hD hS (lv_sub hl [2, 3, 4, 1, 0] rfl)
abbrev rmX3_readNumbers : Room := { frames := 3, cells := 0, slots := 0, locals := 64 }
noncomputable def bX3_readNumbers_89 (x2 : Int32) (x3 : Int32) (g_length : Int32) (g_numbers : Int64) (g_letters : Nat → Int32) : Option (Int32 × Int64) := br (0 ≤ x3) (some ((x2, g_numbers))) (some (((-1 : Int32), g_numbers)))
noncomputable def bX3_readNumbers_4 (g_length : Int32) (g_letters : Nat → Int32) (x2 : Int32) (x3 : Int32) (g_numbers : Int64) : Option ((Int32 × Int32 × Int64) ⊕ (Int32 × Int64)) := br (g_length ≤ x2) (ml (bX3_readNumbers_89 x2 x3 g_length g_numbers g_letters)) (bd (fX3_letterAt x2 g_length g_letters) (fun u4 => br (u4 = (44 : Int32)) (bd (fX3_figuresAt (x2 + (1 : Int32)) g_length g_letters) (fun u7 => bd (fX3_valueAt (x2 + (1 : Int32)) u7 g_length g_letters) (fun u8 => br (u7 = 0) (some (Sum.inr (((-1 : Int32), g_numbers)))) (bd (fX7_isNumber u8) (fun u10 => br (u10 = 0) (some (Sum.inr (((-1 : Int32), g_numbers)))) (br (x3 < u8) (lt_ (g_numbers ||| ((1 : Int64) <<< (u8.toInt64 &&& 63))) (fun y13 => lt_ (x2 + ((1 : Int32) + u7)) (fun y14 => some (Sum.inl ((y14, u8, y13)))))) (some (Sum.inr (((-1 : Int32), g_numbers)))))))))) (ml (bX3_readNumbers_89 x2 x3 g_length g_numbers g_letters))))
noncomputable def sX3_readNumbers_4 (g_length : Int32) (g_letters : Nat → Int32) : (Int32 × Int32 × Int64) → Option ((Int32 × Int32 × Int64) ⊕ (Int32 × Int64)) := fun q => bX3_readNumbers_4 g_length g_letters q.1 q.2.1 q.2.2
noncomputable def fX3_readNumbers (q1 : Int32) (g_length : Int32) (g_numbers : Int64) (g_letters : Nat → Int32) : Option (Int32 × Int64) := run (sX3_readNumbers_4 g_length g_letters) ((q1, (-1 : Int32), g_numbers))
set_option maxHeartbeats 4000000 in
set_option maxRecDepth 100000 in
theorem cX3_readNumbers_ct (l : Launch) (D : va_G) (cI cL cC cZ : ClassId) (a_this a_letters a_sets : Nat) (g_length : Int32) (g_numbers : Int64) (g_letters : Nat → Int32) (q1 : Int32) (r0 : Int32) (v_numbers : Int64) (hf : fX3_readNumbers q1 g_length g_numbers g_letters = some ((r0, v_numbers))) : CtI l yX3_readNumbers wsX3_readNumbers rmX3_readNumbers D (tyz cI cL cC cZ) [.ref a_this, .int q1] [(a_this, .inr (3, [.ref a_letters, .ref a_sets, .int g_length, .long g_numbers])), (a_letters, .inl (cC, 200, .inl g_letters))] [(a_this, .inr (3, [.ref a_letters, .ref a_sets, .int g_length, .long v_numbers])), (a_letters, .inl (cC, 200, .inl g_letters))] r0 := by
  refine CtI.make (cc := cX3_readNumbers) (maxL := 6) (ty := .int) (by decide) rfl (Nat.le_of_ble_eq_true rfl) ?_
  intro p e s m below meth c A ls C0 hN hA hP hD hl
  obtain ⟨hx, hb, hr, hml, hown, hts, hlk⟩ := id C0
  have hown : s.vm.findClass RX3 = some m.cls := hown
  have hS : va_S A s.heap s.heap [] := va_S.rf
  have hP : va_P D vwCl [(a_this, .inr (3, [.ref a_letters, .ref a_sets, .int g_length, .long g_numbers])), (a_letters, .inl (cC, 200, .inl g_letters))] s.heap := hP
  have hD : va_D A [(a_this, .inr (3, [.ref a_letters, .ref a_sets, .int g_length, .long g_numbers])), (a_letters, .inl (cC, 200, .inl g_letters))] := hD
  have hl : lv_has ls 6 [(0, .ref a_this), (1, .int q1)] := hl
  have z1 : ∀ w ∈ u_ws RX3 TX3 4, w ∈ wsX3_readNumbers := by decide +kernel
  have z2 := hts (.fieldLink RX3 19 "LittleSums$Script" "length" "I") (by decide +kernel)
  have z3 := cwV (R := rmX3_readNumbers) (rm := rmX3_letterAt) (mc := 0) (ms := 0) 1 hts gX3_readNumbers_X3_letterAt rfl rfl rfl (by decide +kernel) ⟨Nat.le_of_ble_eq_true rfl, Nat.le_of_ble_eq_true rfl⟩
  have z4 := cwV (R := rmX3_readNumbers) (rm := rmX3_figuresAt) (mc := 0) (ms := 0) 1 hts gX3_readNumbers_X3_figuresAt rfl rfl rfl (by decide +kernel) ⟨Nat.le_of_ble_eq_true rfl, Nat.le_of_ble_eq_true rfl⟩
  have z5 := cwV (R := rmX3_readNumbers) (rm := rmX3_valueAt) (mc := 0) (ms := 0) 2 hts gX3_readNumbers_X3_valueAt rfl rfl rfl (by decide +kernel) ⟨Nat.le_of_ble_eq_true rfl, Nat.le_of_ble_eq_true rfl⟩
  have z6 := va_cnB (R := rmX3_readNumbers) (rm := rmX7_isNumber) (mc := 0) (ms := 0) 1 hts ggX3_readNumbers_X7_isNumber rfl rfl rfl (hN.2 (RX3, 54, yX7_isNumber, "LittleSums") (by decide +kernel)) (hts (.initialized RX7) (by decide +kernel)) (by decide +kernel) ⟨Nat.le_of_ble_eq_true rfl, Nat.le_of_ble_eq_true rfl⟩
  have z7 := hts (.static yX7_isNumber) (by decide +kernel)
  have z8 := hts (.fieldLink RX3 47 "LittleSums$Script" "numbers" "J") (by decide +kernel)
  have w89 : ∀ (x2 : Int32) (x3 : Int32) (g_length : Int32) (g_numbers : Int64) (g_letters : Nat → Int32) (H : Heap) (locs : List Loc) (ls : Array Slot), bX3_readNumbers_89 x2 x3 g_length g_numbers g_letters = some ((r0, v_numbers)) → va_P D vwCl [(a_this, .inr (3, [.ref a_letters, .ref a_sets, .int g_length, .long g_numbers])), (a_letters, .inl (cC, 200, .inl g_letters))] H → va_D A [(a_this, .inr (3, [.ref a_letters, .ref a_sets, .int g_length, .long g_numbers])), (a_letters, .inl (cC, 200, .inl g_letters))] → va_S A s.heap H locs → lv_has ls 6 [(2, .int x2), (3, .int x3)] → W p l e rmX3_readNumbers s m ([.ref a_this, .int q1] : List Value).toArray below meth c H locs 0 0 (MQ below (cQi D r0 A [(a_this, .inr (3, [.ref a_letters, .ref a_sets, .int g_length, .long v_numbers])), (a_letters, .inl (cC, 200, .inl g_letters))]) ([.ref a_this, .int q1] : List Value).toArray s 0 0 A) (F0 m 89 ls []) := by
    intro x2 x3 g_length g_numbers g_letters H locs ls hf hP hD hS hl
    unfold bX3_readNumbers_89 at hf
    refine lv_iload_n hx hb dX3_readNumbers_89 rfl (lv_at hl 1 rfl) ?_
    refine lv_if_ge (tgt := 97) hx hb dX3_readNumbers_90 (by decide) (fun c1 => ?_) (fun c1 => ?_)
    · have hf := br_pos c1 hf
      refine lv_iload_n hx hb dX3_readNumbers_97 rfl (lv_at hl 0 rfl) ?_
      have hE : (x2, g_numbers) = (r0, v_numbers) := Option.some.inj hf
      simp only [Prod.mk.injEq] at hE
      obtain ⟨rfl, rfl⟩ := hE
      exact rtI hx hb hr hlk hP hD hS dX3_readNumbers_98
    · have hf := br_neg c1 hf
      refine lv_iconst (v := -1) hx hb dX3_readNumbers_93 (by decide) ?_
      refine lv_goto (tgt := 98) hx hb dX3_readNumbers_94 (by decide) ?_
      have hE : ((-1 : Int32), g_numbers) = (r0, v_numbers) := Option.some.inj hf
      simp only [Prod.mk.injEq] at hE
      obtain ⟨rfl, rfl⟩ := hE
      exact rtI hx hb hr hlk hP hD hS dX3_readNumbers_98
  have w4 : ∀ (g_length : Int32) (g_letters : Nat → Int32) (x2 : Int32) (x3 : Int32) (g_numbers : Int64) (t : Int32 × Int64) (H : Heap) (locs : List Loc) (ls : Array Slot), run (sX3_readNumbers_4 g_length g_letters) ((x2, x3, g_numbers)) = some t → (fun z => z = (r0, v_numbers)) t → va_P D vwCl [(a_this, .inr (3, [.ref a_letters, .ref a_sets, .int g_length, .long g_numbers])), (a_letters, .inl (cC, 200, .inl g_letters))] H → va_D A [(a_this, .inr (3, [.ref a_letters, .ref a_sets, .int g_length, .long g_numbers])), (a_letters, .inl (cC, 200, .inl g_letters))] → va_S A s.heap H locs → lv_has ls 6 [(0, .ref a_this), (2, .int x2), (3, .int x3)] → W p l e rmX3_readNumbers s m ([.ref a_this, .int q1] : List Value).toArray below meth c H locs 0 0 (MQ below (cQi D r0 A [(a_this, .inr (3, [.ref a_letters, .ref a_sets, .int g_length, .long v_numbers])), (a_letters, .inl (cC, 200, .inl g_letters))]) ([.ref a_this, .int q1] : List Value).toArray s 0 0 A) (F0 m 4 ls []) := by
    intro g_length g_letters
    obtain ⟨F4, eF4⟩ : ∃ F : (Int32 × Int32 × Int64) → Prop, F = fun q => ∀ (H : Heap) (locs : List Loc) (ls : Array Slot), va_P D vwCl [(a_this, .inr (3, [.ref a_letters, .ref a_sets, .int g_length, .long q.2.2])), (a_letters, .inl (cC, 200, .inl g_letters))] H → va_D A [(a_this, .inr (3, [.ref a_letters, .ref a_sets, .int g_length, .long q.2.2])), (a_letters, .inl (cC, 200, .inl g_letters))] → va_S A s.heap H locs → lv_has ls 6 [(0, .ref a_this), (2, .int q.1), (3, .int q.2.1)] → W p l e rmX3_readNumbers s m ([.ref a_this, .int q1] : List Value).toArray below meth c H locs 0 0 (MQ below (cQi D r0 A [(a_this, .inr (3, [.ref a_letters, .ref a_sets, .int g_length, .long v_numbers])), (a_letters, .inl (cC, 200, .inl g_letters))]) ([.ref a_this, .int q1] : List Value).toArray s 0 0 A) (F0 m 4 ls []) := ⟨_, rfl⟩
    have key : ∀ (q : Int32 × Int32 × Int64) (t : Int32 × Int64), run (sX3_readNumbers_4 g_length g_letters) q = some t → (fun z => z = (r0, v_numbers)) t → F4 q := by
      refine loop_rule (sX3_readNumbers_4 g_length g_letters) F4 (fun z => z = (r0, v_numbers)) ?_
      intro q t hf hF
      have hF : (Sum.elim F4 (fun z => z = (r0, v_numbers))) t := hF
      rw [eF4]
      obtain ⟨x2, x3, g_numbers⟩ := q
      intro H locs ls hP hD hS hl
      have hP : va_P D vwCl [(a_this, .inr (3, [.ref a_letters, .ref a_sets, .int g_length, .long g_numbers])), (a_letters, .inl (cC, 200, .inl g_letters))] H := hP
      have hD : va_D A [(a_this, .inr (3, [.ref a_letters, .ref a_sets, .int g_length, .long g_numbers])), (a_letters, .inl (cC, 200, .inl g_letters))] := hD
      have hl : lv_has ls 6 [(0, .ref a_this), (2, .int x2), (3, .int x3)] := hl
      have hf : bX3_readNumbers_4 g_length g_letters x2 x3 g_numbers = some t := hf
      unfold bX3_readNumbers_4 at hf
      refine lv_iload_n hx hb dX3_readNumbers_4 rfl (lv_at hl 1 rfl) ?_
      refine lv_aload_n hx hb dX3_readNumbers_5 rfl (lv_at hl 0 rfl) ?_
      refine va_get (D := D) (ci := 3) (v := .int g_length) (C := RX3) (T := TX3) (N := 4) hx hb hts z1 hown hN.1 hP 0 rfl rfl 2 (by decide) z2 (fun _ h9 => h9) rfl dX3_readNumbers_6 ?_
      refine lv_icmp_ge (tgt := 89) hx hb dX3_readNumbers_9 (by decide) (fun c2 => ?_) (fun c2 => ?_)
      · have hf := br_pos c2 hf
        obtain ⟨t3, hf, hF⟩ := ml_fin hf hF
        have hF : t3 = (r0, v_numbers) := hF
        rw [hF] at hf
        exact w89 x2 x3 g_length g_numbers g_letters H locs ls hf hP hD hS (lv_sub hl [1, 2] rfl)
      · have hf := br_neg c2 hf
        refine lv_aload_n hx hb dX3_readNumbers_12 rfl (lv_at hl 0 rfl) ?_
        refine lv_iload_n hx hb dX3_readNumbers_13 rfl (lv_at hl 1 rfl) ?_
        obtain ⟨u4, hu4, hf⟩ := bd_some hf
        refine caVI (rest := []) (As := [.int x2]) (wr := []) (wo := [(a_this, .inr (3, [.ref a_letters, .ref a_sets, .int g_length, .long g_numbers])), (a_letters, .inl (cC, 200, .inl g_letters))]) ⟨hx, hb, hml, hown, hts⟩ hN hP hD hS hA (cX3_letterAt_ct l D cI cL cC cZ a_this a_letters a_sets g_length g_numbers g_letters x2 u4 hu4) z3 0 3 rfl rfl [0, 1] [] [0, 1] rfl (by decide) rfl (by decide) (by decide) rfl (by decide) rfl hl.1 rfl (Nat.le_of_ble_eq_true rfl) dX3_readNumbers_14 ⟨Nat.zero_le _, Nat.zero_le _⟩ (fun H locs hP hD hS => ?_)
        refine lv_bipush (v := 44) hx hb dX3_readNumbers_17 (by decide) ?_
        refine lv_icmp_ne (tgt := 89) hx hb dX3_readNumbers_19 (by decide) (fun c5 => ?_) (fun c5 => ?_)
        · have hf := br_neg c5 hf
          obtain ⟨t6, hf, hF⟩ := ml_fin hf hF
          have hF : t6 = (r0, v_numbers) := hF
          rw [hF] at hf
          exact w89 x2 x3 g_length g_numbers g_letters H locs ls hf hP hD hS (lv_sub hl [1, 2] rfl)
        · have hf := br_pos c5 hf
          refine lv_aload_n hx hb dX3_readNumbers_22 rfl (lv_at hl 0 rfl) ?_
          refine lv_iload_n hx hb dX3_readNumbers_23 rfl (lv_at hl 1 rfl) ?_
          refine lv_iconst (v := 1) hx hb dX3_readNumbers_24 (by decide) ?_
          refine lv_iadd hx hb dX3_readNumbers_25 ?_
          obtain ⟨u7, hu7, hf⟩ := bd_some hf
          refine caVI (rest := []) (As := [.int (x2 + (1 : Int32))]) (wr := []) (wo := [(a_this, .inr (3, [.ref a_letters, .ref a_sets, .int g_length, .long g_numbers])), (a_letters, .inl (cC, 200, .inl g_letters))]) ⟨hx, hb, hml, hown, hts⟩ hN hP hD hS hA (cX3_figuresAt_ct l D cI cL cC cZ a_this a_letters a_sets g_length g_numbers g_letters (x2 + (1 : Int32)) u7 hu7) z4 0 3 rfl rfl [0, 1] [] [0, 1] rfl (by decide) rfl (by decide) (by decide) rfl (by decide) rfl hl.1 rfl (Nat.le_of_ble_eq_true rfl) dX3_readNumbers_26 ⟨Nat.zero_le _, Nat.zero_le _⟩ (fun H locs hP hD hS => ?_)
          refine lv_istore (lv' := [(4, .int u7), (0, .ref a_this), (2, .int x2), (3, .int x3)]) hx hb dX3_readNumbers_29 hl (by decide) rfl (fun ls hl => ?_)
          refine lv_aload_n hx hb dX3_readNumbers_31 rfl (lv_at hl 1 rfl) ?_
          refine lv_iload_n hx hb dX3_readNumbers_32 rfl (lv_at hl 2 rfl) ?_
          refine lv_iconst (v := 1) hx hb dX3_readNumbers_33 (by decide) ?_
          refine lv_iadd hx hb dX3_readNumbers_34 ?_
          refine lv_iload hx hb dX3_readNumbers_35 (lv_at hl 0 rfl) ?_
          obtain ⟨u8, hu8, hf⟩ := bd_some hf
          refine caVI (rest := []) (As := [.int (x2 + (1 : Int32)), .int u7]) (wr := []) (wo := [(a_this, .inr (3, [.ref a_letters, .ref a_sets, .int g_length, .long g_numbers])), (a_letters, .inl (cC, 200, .inl g_letters))]) ⟨hx, hb, hml, hown, hts⟩ hN hP hD hS hA (cX3_valueAt_ct l D cI cL cC cZ a_this a_letters a_sets g_length g_numbers g_letters (x2 + (1 : Int32)) u7 u8 hu8) z5 0 3 rfl rfl [0, 1] [] [0, 1] rfl (by decide) rfl (by decide) (by decide) rfl (by decide) rfl hl.1 rfl (Nat.le_of_ble_eq_true rfl) dX3_readNumbers_37 ⟨Nat.zero_le _, Nat.zero_le _⟩ (fun H locs hP hD hS => ?_)
          refine lv_istore (lv' := [(5, .int u8), (4, .int u7), (0, .ref a_this), (2, .int x2), (3, .int x3)]) hx hb dX3_readNumbers_40 hl (by decide) rfl (fun ls hl => ?_)
          refine lv_iload hx hb dX3_readNumbers_42 (lv_at hl 1 rfl) ?_
          refine lv_if_eq (tgt := 61) hx hb dX3_readNumbers_44 (by decide) (fun c9 => ?_) (fun c9 => ?_)
          · have hf := br_pos c9 hf
            refine lv_iconst (v := -1) hx hb dX3_readNumbers_61 (by decide) ?_
            cases hf
            have hE : ((-1 : Int32), g_numbers) = (r0, v_numbers) := hF
            simp only [Prod.mk.injEq] at hE
            obtain ⟨rfl, rfl⟩ := hE
            exact rtI hx hb hr hlk hP hD hS dX3_readNumbers_62
          · have hf := br_neg c9 hf
            refine lv_iload hx hb dX3_readNumbers_47 (lv_at hl 0 rfl) ?_
            obtain ⟨u10, hu10, hf⟩ := bd_some hf
            refine caNI (rest := []) (As := [.int u8]) (wr := [(a_this, .inr (3, [.ref a_letters, .ref a_sets, .int g_length, .long g_numbers])), (a_letters, .inl (cC, 200, .inl g_letters))]) (wo := [(a_this, .inr (3, [.ref a_letters, .ref a_sets, .int g_length, .long g_numbers])), (a_letters, .inl (cC, 200, .inl g_letters))]) ⟨hx, hb, hml, hown, hts⟩ hN hP hD hS hA (cX7_isNumber_ct l D cI cL cC cZ u8 u10 hu10) ⟨z6, z7, trivial⟩ [] [0, 1] [0, 1] rfl (by decide) rfl (by decide) (by decide) rfl (by decide) rfl hl.1 rfl (Nat.le_of_ble_eq_true rfl) dX3_readNumbers_49 ⟨Nat.zero_le _, Nat.zero_le _⟩ (fun H locs hP hD hS => ?_)
            refine lv_if_eq (tgt := 61) hx hb dX3_readNumbers_52 (by decide) (fun c11 => ?_) (fun c11 => ?_)
            · have hf := br_pos c11 hf
              refine lv_iconst (v := -1) hx hb dX3_readNumbers_61 (by decide) ?_
              cases hf
              have hE : ((-1 : Int32), g_numbers) = (r0, v_numbers) := hF
              simp only [Prod.mk.injEq] at hE
              obtain ⟨rfl, rfl⟩ := hE
              exact rtI hx hb hr hlk hP hD hS dX3_readNumbers_62
            · have hf := br_neg c11 hf
              refine lv_iload hx hb dX3_readNumbers_55 (lv_at hl 0 rfl) ?_
              refine lv_iload_n hx hb dX3_readNumbers_57 rfl (lv_at hl 4 rfl) ?_
              refine lv_icmp_gt (tgt := 63) hx hb dX3_readNumbers_58 (by decide) (fun c12 => ?_) (fun c12 => ?_)
              · have hf := br_pos c12 hf
                refine lv_aload_n hx hb dX3_readNumbers_63 rfl (lv_at hl 2 rfl) ?_
                refine lv_dup hx hb dX3_readNumbers_64 rfl ?_
                refine va_get (D := D) (ci := 3) (v := .long g_numbers) (C := RX3) (T := TX3) (N := 4) hx hb hts z1 hown hN.1 hP 0 rfl rfl 3 (by decide) z8 (fun _ h9 => h9) rfl dX3_readNumbers_65 ?_
                refine lv_lconst (v := 1) hx hb dX3_readNumbers_68 (by decide) ?_
                refine lv_iload hx hb dX3_readNumbers_69 (lv_at hl 0 rfl) ?_
                refine lv_lshl hx hb dX3_readNumbers_71 rfl ?_
                refine lv_lor hx hb dX3_readNumbers_72 ?_
                refine lv_topl (fun y13 ey13 => ?_)
                have hf := lt_some hf y13 ey13
                refine va_put (D := D) (ci := 3) (v := .long y13) (ty := .long) (C := RX3) (T := TX3) (N := 4) hx hb hts z1 tyX3 tyX3_ok nmX3 hown hN.1 hP hD hS 0 rfl rfl 3 (by decide) z8 (fun _ h9 => h9) rfl (by decide +kernel) rfl rfl (Nat.le_of_ble_eq_true rfl) dX3_readNumbers_73 (fun H locs hP hD hS => ?_)
                have hP : va_P D vwCl [(a_this, .inr (3, [.ref a_letters, .ref a_sets, .int g_length, .long y13])), (a_letters, .inl (cC, 200, .inl g_letters))] H := hP
                have hD : va_D A [(a_this, .inr (3, [.ref a_letters, .ref a_sets, .int g_length, .long y13])), (a_letters, .inl (cC, 200, .inl g_letters))] := hD
                refine lv_iload hx hb dX3_readNumbers_76 (lv_at hl 0 rfl) ?_
                refine lv_istore_n (lv' := [(3, .int u8), (5, .int u8), (4, .int u7), (0, .ref a_this), (2, .int x2)]) hx hb dX3_readNumbers_78 rfl hl (by decide) rfl (fun ls hl => ?_)
                refine lv_iload_n hx hb dX3_readNumbers_79 rfl (lv_at hl 4 rfl) ?_
                refine lv_iconst (v := 1) hx hb dX3_readNumbers_80 (by decide) ?_
                refine lv_iload hx hb dX3_readNumbers_81 (lv_at hl 2 rfl) ?_
                refine lv_iadd hx hb dX3_readNumbers_83 ?_
                refine lv_iadd hx hb dX3_readNumbers_84 ?_
                refine lv_topi (fun y14 ey14 => ?_)
                have hf := lt_some hf y14 ey14
                refine lv_istore_n (lv' := [(2, .int y14), (3, .int u8), (5, .int u8), (4, .int u7), (0, .ref a_this)]) hx hb dX3_readNumbers_85 rfl hl (by decide) rfl (fun ls hl => ?_)
                refine lv_goto (tgt := 4) hx hb dX3_readNumbers_86 (by decide) ?_
                cases hf
                exact ((congrFun eF4 _).mp hF) H locs ls hP hD hS (lv_sub hl [4, 0, 1] rfl)
              · have hf := br_neg c12 hf
                refine lv_iconst (v := -1) hx hb dX3_readNumbers_61 (by decide) ?_
                cases hf
                have hE : ((-1 : Int32), g_numbers) = (r0, v_numbers) := hF
                simp only [Prod.mk.injEq] at hE
                obtain ⟨rfl, rfl⟩ := hE
                exact rtI hx hb hr hlk hP hD hS dX3_readNumbers_62
    intro x2 x3 g_numbers t H locs ls hf hF hP hD hS hl
    exact ((congrFun eF4 _).mp (key ((x2, x3, g_numbers)) t hf hF)) H locs ls hP hD hS hl
  unfold fX3_readNumbers at hf
  obtain ⟨H, eH⟩ : ∃ z, z = s.heap := ⟨_, rfl⟩
  obtain ⟨locs, eL⟩ : ∃ z : List Loc, z = [] := ⟨_, rfl⟩
  have hP : va_P D vwCl [(a_this, .inr (3, [.ref a_letters, .ref a_sets, .int g_length, .long g_numbers])), (a_letters, .inl (cC, 200, .inl g_letters))] H := by rw [eH]; exact hP
  have hS : va_S A s.heap H locs := by rw [eH, eL]; exact hS
  suffices hG : W p l e rmX3_readNumbers s m ([.ref a_this, .int q1] : List Value).toArray below meth c H locs 0 0 (MQ below (cQi D r0 A [(a_this, .inr (3, [.ref a_letters, .ref a_sets, .int g_length, .long v_numbers])), (a_letters, .inl (cC, 200, .inl g_letters))]) ([.ref a_this, .int q1] : List Value).toArray s 0 0 A) (F0 m 0 ls []) by rw [eH, eL] at hG; exact hG
  refine lv_iload_n hx hb dX3_readNumbers_0 rfl (lv_at hl 1 rfl) ?_
  refine lv_istore_n (lv' := [(2, .int q1), (0, .ref a_this), (1, .int q1)]) hx hb dX3_readNumbers_1 rfl hl (by decide) rfl (fun ls hl => ?_)
  refine lv_iconst (v := -1) hx hb dX3_readNumbers_2 (by decide) ?_
  refine lv_istore_n (lv' := [(3, .int (-1 : Int32)), (2, .int q1), (0, .ref a_this), (1, .int q1)]) hx hb dX3_readNumbers_3 rfl hl (by decide) rfl (fun ls hl => ?_)
  exact w4 g_length g_letters q1 (-1 : Int32) g_numbers (r0, v_numbers) H locs ls hf rfl hP hD hS (lv_sub hl [2, 1, 0] rfl)
abbrev rmX3_readItem : Room := { frames := 4, cells := 0, slots := 0, locals := 89 }
noncomputable def bX3_readItem_68 (x4 : Int32) (x5 : Int32) (g_length : Int32) (g_numbers : Int64) (g_letters : Nat → Int32) (g_sets : Nat → Int64) : Option (Int32 × Int64 × (Nat → Int64)) := bd (fX7_isSlot x4) (fun u1 => br (u1 = 0) (some (((-1 : Int32), g_numbers, g_sets))) (bd (fX3_letterAt x5 g_length g_letters) (fun u3 => br (u3 = (59 : Int32)) (gd (¬ x4 < 0 ∧ x4.toNatClampNeg < 4) (lt_ (vp_updL g_sets x4.toNatClampNeg g_numbers) (fun y6 => some ((x5 + (1 : Int32), g_numbers, y6))))) (some (((-1 : Int32), g_numbers, g_sets))))))
noncomputable def bX3_readItem_26 (x1 : Int32) (x2 : Int32) (x3 : Int32) (g_length : Int32) (g_numbers : Int64) (g_letters : Nat → Int32) (g_sets : Nat → Int64) : Option (Int32 × Int64 × (Nat → Int64)) := br (x3 = 0) (some (((-1 : Int32), g_numbers, g_sets))) (bd (fX3_valueAt (x1 + (1 : Int32)) x3 g_length g_letters) (fun u8 => lt_ ((x1 + (1 : Int32)) + x3) (fun y9 => br (x2 = (115 : Int32)) (bd (fX3_readNumbers y9 g_length (0 : Int64) g_letters) (fun u11 => bX3_readItem_68 u8 u11.1 g_length u11.2 g_letters g_sets)) (bX3_readItem_68 u8 y9 g_length (0 : Int64) g_letters g_sets))))
noncomputable def fX3_readItem (q1 : Int32) (g_length : Int32) (g_numbers : Int64) (g_letters : Nat → Int32) (g_sets : Nat → Int64) : Option (Int32 × Int64 × (Nat → Int64)) := bd (fX3_letterAt q1 g_length g_letters) (fun u12 => bd (fX3_figuresAt (q1 + (1 : Int32)) g_length g_letters) (fun u13 => br (u12 = (115 : Int32)) (bX3_readItem_26 q1 u12 u13 g_length g_numbers g_letters g_sets) (br (u12 = (101 : Int32)) (bX3_readItem_26 q1 u12 u13 g_length g_numbers g_letters g_sets) (some (((-1 : Int32), g_numbers, g_sets))))))
set_option maxHeartbeats 4000000 in
set_option maxRecDepth 100000 in
theorem cX3_readItem_ct (l : Launch) (D : va_G) (cI cL cC cZ : ClassId) (a_this a_letters a_sets : Nat) (g_length : Int32) (g_numbers : Int64) (g_letters : Nat → Int32) (g_sets : Nat → Int64) (q1 : Int32) (r0 : Int32) (v_numbers : Int64) (v_sets : Nat → Int64) (hf : fX3_readItem q1 g_length g_numbers g_letters g_sets = some ((r0, v_numbers, v_sets))) : CtI l yX3_readItem wsX3_readItem rmX3_readItem D (tyz cI cL cC cZ) [.ref a_this, .int q1] [(a_this, .inr (3, [.ref a_letters, .ref a_sets, .int g_length, .long g_numbers])), (a_letters, .inl (cC, 200, .inl g_letters)), (a_sets, .inl (cL, 4, .inr (.inl g_sets)))] [(a_this, .inr (3, [.ref a_letters, .ref a_sets, .int g_length, .long v_numbers])), (a_letters, .inl (cC, 200, .inl g_letters)), (a_sets, .inl (cL, 4, .inr (.inl v_sets)))] r0 := by
  refine CtI.make (cc := cX3_readItem) (maxL := 6) (ty := .int) (by decide) rfl (Nat.le_of_ble_eq_true rfl) ?_
  intro p e s m below meth c A ls C0 hN hA hP hD hl
  obtain ⟨hx, hb, hr, hml, hown, hts, hlk⟩ := id C0
  have hown : s.vm.findClass RX3 = some m.cls := hown
  have hS : va_S A s.heap s.heap [] := va_S.rf
  have hP : va_P D vwCl [(a_this, .inr (3, [.ref a_letters, .ref a_sets, .int g_length, .long g_numbers])), (a_letters, .inl (cC, 200, .inl g_letters)), (a_sets, .inl (cL, 4, .inr (.inl g_sets)))] s.heap := hP
  have hD : va_D A [(a_this, .inr (3, [.ref a_letters, .ref a_sets, .int g_length, .long g_numbers])), (a_letters, .inl (cC, 200, .inl g_letters)), (a_sets, .inl (cL, 4, .inr (.inl g_sets)))] := hD
  have hl : lv_has ls 6 [(0, .ref a_this), (1, .int q1)] := hl
  have z1 := va_cnB (R := rmX3_readItem) (rm := rmX7_isSlot) (mc := 0) (ms := 0) 1 hts ggX3_readItem_X7_isSlot rfl rfl rfl (hN.2 (RX3, 23, yX7_isSlot, "LittleSums") (by decide +kernel)) (hts (.initialized RX7) (by decide +kernel)) (by decide +kernel) ⟨Nat.le_of_ble_eq_true rfl, Nat.le_of_ble_eq_true rfl⟩
  have z2 := hts (.static yX7_isSlot) (by decide +kernel)
  have z3 := cwV (R := rmX3_readItem) (rm := rmX3_letterAt) (mc := 0) (ms := 0) 1 hts gX3_readItem_X3_letterAt rfl rfl rfl (by decide +kernel) ⟨Nat.le_of_ble_eq_true rfl, Nat.le_of_ble_eq_true rfl⟩
  have z4 : ∀ w ∈ u_ws RX3 TX3 4, w ∈ wsX3_readItem := by decide +kernel
  have z5 := hts (.fieldLink RX3 15 "LittleSums$Script" "sets" "[J") (by decide +kernel)
  have z6 := hts (.fieldLink RX3 47 "LittleSums$Script" "numbers" "J") (by decide +kernel)
  have z7 := cwV (R := rmX3_readItem) (rm := rmX3_valueAt) (mc := 0) (ms := 0) 2 hts gX3_readItem_X3_valueAt rfl rfl rfl (by decide +kernel) ⟨Nat.le_of_ble_eq_true rfl, Nat.le_of_ble_eq_true rfl⟩
  have z8 := cwV (R := rmX3_readItem) (rm := rmX3_readNumbers) (mc := 0) (ms := 0) 1 hts gX3_readItem_X3_readNumbers rfl rfl rfl (by decide +kernel) ⟨Nat.le_of_ble_eq_true rfl, Nat.le_of_ble_eq_true rfl⟩
  have z9 := cwV (R := rmX3_readItem) (rm := rmX3_figuresAt) (mc := 0) (ms := 0) 1 hts gX3_readItem_X3_figuresAt rfl rfl rfl (by decide +kernel) ⟨Nat.le_of_ble_eq_true rfl, Nat.le_of_ble_eq_true rfl⟩
  have w68 : ∀ (x4 : Int32) (x5 : Int32) (g_length : Int32) (g_numbers : Int64) (g_letters : Nat → Int32) (g_sets : Nat → Int64) (H : Heap) (locs : List Loc) (ls : Array Slot), bX3_readItem_68 x4 x5 g_length g_numbers g_letters g_sets = some ((r0, v_numbers, v_sets)) → va_P D vwCl [(a_this, .inr (3, [.ref a_letters, .ref a_sets, .int g_length, .long g_numbers])), (a_letters, .inl (cC, 200, .inl g_letters)), (a_sets, .inl (cL, 4, .inr (.inl g_sets)))] H → va_D A [(a_this, .inr (3, [.ref a_letters, .ref a_sets, .int g_length, .long g_numbers])), (a_letters, .inl (cC, 200, .inl g_letters)), (a_sets, .inl (cL, 4, .inr (.inl g_sets)))] → va_S A s.heap H locs → lv_has ls 6 [(0, .ref a_this), (4, .int x4), (5, .int x5)] → W p l e rmX3_readItem s m ([.ref a_this, .int q1] : List Value).toArray below meth c H locs 0 0 (MQ below (cQi D r0 A [(a_this, .inr (3, [.ref a_letters, .ref a_sets, .int g_length, .long v_numbers])), (a_letters, .inl (cC, 200, .inl g_letters)), (a_sets, .inl (cL, 4, .inr (.inl v_sets)))]) ([.ref a_this, .int q1] : List Value).toArray s 0 0 A) (F0 m 68 ls []) := by
    intro x4 x5 g_length g_numbers g_letters g_sets H locs ls hf hP hD hS hl
    unfold bX3_readItem_68 at hf
    refine lv_iload hx hb dX3_readItem_68 (lv_at hl 1 rfl) ?_
    obtain ⟨u1, hu1, hf⟩ := bd_some hf
    refine caNI (rest := []) (As := [.int x4]) (wr := [(a_this, .inr (3, [.ref a_letters, .ref a_sets, .int g_length, .long g_numbers])), (a_letters, .inl (cC, 200, .inl g_letters)), (a_sets, .inl (cL, 4, .inr (.inl g_sets)))]) (wo := [(a_this, .inr (3, [.ref a_letters, .ref a_sets, .int g_length, .long g_numbers])), (a_letters, .inl (cC, 200, .inl g_letters)), (a_sets, .inl (cL, 4, .inr (.inl g_sets)))]) ⟨hx, hb, hml, hown, hts⟩ hN hP hD hS hA (cX7_isSlot_ct l D cI cL cC cZ x4 u1 hu1) ⟨z1, z2, trivial⟩ [] [0, 1, 2] [0, 1, 2] rfl (by decide) rfl (by decide) (by decide) rfl (by decide) rfl hl.1 rfl (Nat.le_of_ble_eq_true rfl) dX3_readItem_70 ⟨Nat.zero_le _, Nat.zero_le _⟩ (fun H locs hP hD hS => ?_)
    refine lv_if_eq (tgt := 87) hx hb dX3_readItem_73 (by decide) (fun c2 => ?_) (fun c2 => ?_)
    · have hf := br_pos c2 hf
      refine lv_iconst (v := -1) hx hb dX3_readItem_87 (by decide) ?_
      have hE : ((-1 : Int32), g_numbers, g_sets) = (r0, v_numbers, v_sets) := Option.some.inj hf
      simp only [Prod.mk.injEq] at hE
      obtain ⟨rfl, rfl, rfl⟩ := hE
      exact rtI hx hb hr hlk hP hD hS dX3_readItem_88
    · have hf := br_neg c2 hf
      refine lv_aload_n hx hb dX3_readItem_76 rfl (lv_at hl 0 rfl) ?_
      refine lv_iload hx hb dX3_readItem_77 (lv_at hl 2 rfl) ?_
      obtain ⟨u3, hu3, hf⟩ := bd_some hf
      refine caVI (rest := []) (As := [.int x5]) (wr := [(a_sets, .inl (cL, 4, .inr (.inl g_sets)))]) (wo := [(a_this, .inr (3, [.ref a_letters, .ref a_sets, .int g_length, .long g_numbers])), (a_letters, .inl (cC, 200, .inl g_letters)), (a_sets, .inl (cL, 4, .inr (.inl g_sets)))]) ⟨hx, hb, hml, hown, hts⟩ hN hP hD hS hA (cX3_letterAt_ct l D cI cL cC cZ a_this a_letters a_sets g_length g_numbers g_letters x5 u3 hu3) z3 0 3 rfl rfl [0, 1] [2] [1, 2, 0] rfl (by decide) rfl (by decide) (by decide) rfl (by decide) rfl hl.1 rfl (Nat.le_of_ble_eq_true rfl) dX3_readItem_79 ⟨Nat.zero_le _, Nat.zero_le _⟩ (fun H locs hP hD hS => ?_)
      refine lv_bipush (v := 59) hx hb dX3_readItem_82 (by decide) ?_
      refine lv_icmp_eq (tgt := 89) hx hb dX3_readItem_84 (by decide) (fun c4 => ?_) (fun c4 => ?_)
      · have hf := br_pos c4 hf
        refine lv_aload_n hx hb dX3_readItem_89 rfl (lv_at hl 0 rfl) ?_
        refine va_get (D := D) (ci := 3) (v := .ref a_sets) (C := RX3) (T := TX3) (N := 4) hx hb hts z4 hown hN.1 hP 0 rfl rfl 1 (by decide) z5 (fun _ h9 => h9) rfl dX3_readItem_90 ?_
        refine lv_iload hx hb dX3_readItem_93 (lv_at hl 1 rfl) ?_
        refine lv_aload_n hx hb dX3_readItem_95 rfl (lv_at hl 0 rfl) ?_
        refine va_get (D := D) (ci := 3) (v := .long g_numbers) (C := RX3) (T := TX3) (N := 4) hx hb hts z4 hown hN.1 hP 0 rfl rfl 3 (by decide) z6 (fun _ h9 => h9) rfl dX3_readItem_96 ?_
        obtain ⟨c5, hf⟩ := gd_some hf
        refine va_last hx hb hN.1 hP hD hS 2 1 rfl rfl (ix_in c5) dX3_readItem_99 (fun H locs hP hD hS => ?_)
        obtain ⟨y6, ey6⟩ : ∃ z, z = vp_updL g_sets x4.toNatClampNeg g_numbers := ⟨_, rfl⟩
        have hf := lt_some hf y6 ey6
        have hP : va_P D vwCl [(a_this, .inr (3, [.ref a_letters, .ref a_sets, .int g_length, .long g_numbers])), (a_letters, .inl (cC, 200, .inl g_letters)), (a_sets, .inl (cL, 4, .inr (.inl y6)))] H := by rw [ey6]; exact hP
        have hD : va_D A [(a_this, .inr (3, [.ref a_letters, .ref a_sets, .int g_length, .long g_numbers])), (a_letters, .inl (cC, 200, .inl g_letters)), (a_sets, .inl (cL, 4, .inr (.inl y6)))] := by rw [ey6]; exact hD
        refine lv_iload hx hb dX3_readItem_100 (lv_at hl 2 rfl) ?_
        refine lv_iconst (v := 1) hx hb dX3_readItem_102 (by decide) ?_
        refine lv_iadd hx hb dX3_readItem_103 ?_
        have hE : (x5 + (1 : Int32), g_numbers, y6) = (r0, v_numbers, v_sets) := Option.some.inj hf
        simp only [Prod.mk.injEq] at hE
        obtain ⟨rfl, rfl, rfl⟩ := hE
        exact rtI hx hb hr hlk hP hD hS dX3_readItem_104
      · have hf := br_neg c4 hf
        refine lv_iconst (v := -1) hx hb dX3_readItem_87 (by decide) ?_
        have hE : ((-1 : Int32), g_numbers, g_sets) = (r0, v_numbers, v_sets) := Option.some.inj hf
        simp only [Prod.mk.injEq] at hE
        obtain ⟨rfl, rfl, rfl⟩ := hE
        exact rtI hx hb hr hlk hP hD hS dX3_readItem_88
  have w26 : ∀ (x1 : Int32) (x2 : Int32) (x3 : Int32) (g_length : Int32) (g_numbers : Int64) (g_letters : Nat → Int32) (g_sets : Nat → Int64) (H : Heap) (locs : List Loc) (ls : Array Slot), bX3_readItem_26 x1 x2 x3 g_length g_numbers g_letters g_sets = some ((r0, v_numbers, v_sets)) → va_P D vwCl [(a_this, .inr (3, [.ref a_letters, .ref a_sets, .int g_length, .long g_numbers])), (a_letters, .inl (cC, 200, .inl g_letters)), (a_sets, .inl (cL, 4, .inr (.inl g_sets)))] H → va_D A [(a_this, .inr (3, [.ref a_letters, .ref a_sets, .int g_length, .long g_numbers])), (a_letters, .inl (cC, 200, .inl g_letters)), (a_sets, .inl (cL, 4, .inr (.inl g_sets)))] → va_S A s.heap H locs → lv_has ls 6 [(0, .ref a_this), (1, .int x1), (2, .int x2), (3, .int x3)] → W p l e rmX3_readItem s m ([.ref a_this, .int q1] : List Value).toArray below meth c H locs 0 0 (MQ below (cQi D r0 A [(a_this, .inr (3, [.ref a_letters, .ref a_sets, .int g_length, .long v_numbers])), (a_letters, .inl (cC, 200, .inl g_letters)), (a_sets, .inl (cL, 4, .inr (.inl v_sets)))]) ([.ref a_this, .int q1] : List Value).toArray s 0 0 A) (F0 m 26 ls []) := by
    intro x1 x2 x3 g_length g_numbers g_letters g_sets H locs ls hf hP hD hS hl
    unfold bX3_readItem_26 at hf
    refine lv_iload_n hx hb dX3_readItem_26 rfl (lv_at hl 3 rfl) ?_
    refine lv_if_ne (tgt := 32) hx hb dX3_readItem_27 (by decide) (fun c7 => ?_) (fun c7 => ?_)
    · have hf := br_neg c7 hf
      refine lv_aload_n hx hb dX3_readItem_32 rfl (lv_at hl 0 rfl) ?_
      refine lv_iload_n hx hb dX3_readItem_33 rfl (lv_at hl 1 rfl) ?_
      refine lv_iconst (v := 1) hx hb dX3_readItem_34 (by decide) ?_
      refine lv_iadd hx hb dX3_readItem_35 ?_
      refine lv_iload_n hx hb dX3_readItem_36 rfl (lv_at hl 3 rfl) ?_
      obtain ⟨u8, hu8, hf⟩ := bd_some hf
      refine caVI (rest := []) (As := [.int (x1 + (1 : Int32)), .int x3]) (wr := [(a_sets, .inl (cL, 4, .inr (.inl g_sets)))]) (wo := [(a_this, .inr (3, [.ref a_letters, .ref a_sets, .int g_length, .long g_numbers])), (a_letters, .inl (cC, 200, .inl g_letters)), (a_sets, .inl (cL, 4, .inr (.inl g_sets)))]) ⟨hx, hb, hml, hown, hts⟩ hN hP hD hS hA (cX3_valueAt_ct l D cI cL cC cZ a_this a_letters a_sets g_length g_numbers g_letters (x1 + (1 : Int32)) x3 u8 hu8) z7 0 3 rfl rfl [0, 1] [2] [1, 2, 0] rfl (by decide) rfl (by decide) (by decide) rfl (by decide) rfl hl.1 rfl (Nat.le_of_ble_eq_true rfl) dX3_readItem_37 ⟨Nat.zero_le _, Nat.zero_le _⟩ (fun H locs hP hD hS => ?_)
      refine lv_istore (lv' := [(4, .int u8), (0, .ref a_this), (1, .int x1), (2, .int x2), (3, .int x3)]) hx hb dX3_readItem_40 hl (by decide) rfl (fun ls hl => ?_)
      refine lv_iload_n hx hb dX3_readItem_42 rfl (lv_at hl 2 rfl) ?_
      refine lv_iconst (v := 1) hx hb dX3_readItem_43 (by decide) ?_
      refine lv_iadd hx hb dX3_readItem_44 ?_
      refine lv_iload_n hx hb dX3_readItem_45 rfl (lv_at hl 4 rfl) ?_
      refine lv_iadd hx hb dX3_readItem_46 ?_
      refine lv_topi (fun y9 ey9 => ?_)
      have hf := lt_some hf y9 ey9
      refine lv_istore (lv' := [(5, .int y9), (4, .int u8), (0, .ref a_this), (1, .int x1), (2, .int x2), (3, .int x3)]) hx hb dX3_readItem_47 hl (by decide) rfl (fun ls hl => ?_)
      refine lv_aload_n hx hb dX3_readItem_49 rfl (lv_at hl 2 rfl) ?_
      refine lv_lconst (v := 0) hx hb dX3_readItem_50 (by decide) ?_
      refine va_put (D := D) (ci := 3) (v := .long (0 : Int64)) (ty := .long) (C := RX3) (T := TX3) (N := 4) hx hb hts z4 tyX3 tyX3_ok nmX3 hown hN.1 hP hD hS 0 rfl rfl 3 (by decide) z6 (fun _ h9 => h9) rfl (by decide +kernel) rfl rfl (Nat.le_of_ble_eq_true rfl) dX3_readItem_51 (fun H locs hP hD hS => ?_)
      have hP : va_P D vwCl [(a_this, .inr (3, [.ref a_letters, .ref a_sets, .int g_length, .long (0 : Int64)])), (a_letters, .inl (cC, 200, .inl g_letters)), (a_sets, .inl (cL, 4, .inr (.inl g_sets)))] H := hP
      have hD : va_D A [(a_this, .inr (3, [.ref a_letters, .ref a_sets, .int g_length, .long (0 : Int64)])), (a_letters, .inl (cC, 200, .inl g_letters)), (a_sets, .inl (cL, 4, .inr (.inl g_sets)))] := hD
      refine lv_iload_n hx hb dX3_readItem_54 rfl (lv_at hl 4 rfl) ?_
      refine lv_bipush (v := 115) hx hb dX3_readItem_55 (by decide) ?_
      refine lv_icmp_ne (tgt := 68) hx hb dX3_readItem_57 (by decide) (fun c10 => ?_) (fun c10 => ?_)
      · have hf := br_neg c10 hf
        exact w68 u8 y9 g_length (0 : Int64) g_letters g_sets H locs ls hf hP hD hS (lv_sub hl [2, 1, 0] rfl)
      · have hf := br_pos c10 hf
        refine lv_aload_n hx hb dX3_readItem_60 rfl (lv_at hl 2 rfl) ?_
        refine lv_iload hx hb dX3_readItem_61 (lv_at hl 0 rfl) ?_
        obtain ⟨u11, hu11, hf⟩ := bd_some hf
        refine caVI (rest := []) (As := [.int y9]) (wr := [(a_sets, .inl (cL, 4, .inr (.inl g_sets)))]) (wo := [(a_this, .inr (3, [.ref a_letters, .ref a_sets, .int g_length, .long u11.2])), (a_letters, .inl (cC, 200, .inl g_letters)), (a_sets, .inl (cL, 4, .inr (.inl g_sets)))]) ⟨hx, hb, hml, hown, hts⟩ hN hP hD hS hA (cX3_readNumbers_ct l D cI cL cC cZ a_this a_letters a_sets g_length (0 : Int64) g_letters y9 u11.1 u11.2 hu11) z8 0 3 rfl rfl [0, 1] [2] [1, 2, 0] rfl (by decide) rfl (by decide) (by decide) rfl (by decide) rfl hl.1 rfl (Nat.le_of_ble_eq_true rfl) dX3_readItem_63 ⟨Nat.zero_le _, Nat.zero_le _⟩ (fun H locs hP hD hS => ?_)
        refine lv_istore (lv' := [(5, .int u11.1), (4, .int u8), (0, .ref a_this), (1, .int x1), (2, .int x2), (3, .int x3)]) hx hb dX3_readItem_66 hl (by decide) rfl (fun ls hl => ?_)
        exact w68 u8 u11.1 g_length u11.2 g_letters g_sets H locs ls hf hP hD hS (lv_sub hl [2, 1, 0] rfl)
    · have hf := br_pos c7 hf
      refine lv_iconst (v := -1) hx hb dX3_readItem_30 (by decide) ?_
      have hE : ((-1 : Int32), g_numbers, g_sets) = (r0, v_numbers, v_sets) := Option.some.inj hf
      simp only [Prod.mk.injEq] at hE
      obtain ⟨rfl, rfl, rfl⟩ := hE
      exact rtI hx hb hr hlk hP hD hS dX3_readItem_31
  unfold fX3_readItem at hf
  obtain ⟨H, eH⟩ : ∃ z, z = s.heap := ⟨_, rfl⟩
  obtain ⟨locs, eL⟩ : ∃ z : List Loc, z = [] := ⟨_, rfl⟩
  have hP : va_P D vwCl [(a_this, .inr (3, [.ref a_letters, .ref a_sets, .int g_length, .long g_numbers])), (a_letters, .inl (cC, 200, .inl g_letters)), (a_sets, .inl (cL, 4, .inr (.inl g_sets)))] H := by rw [eH]; exact hP
  have hS : va_S A s.heap H locs := by rw [eH, eL]; exact hS
  suffices hG : W p l e rmX3_readItem s m ([.ref a_this, .int q1] : List Value).toArray below meth c H locs 0 0 (MQ below (cQi D r0 A [(a_this, .inr (3, [.ref a_letters, .ref a_sets, .int g_length, .long v_numbers])), (a_letters, .inl (cC, 200, .inl g_letters)), (a_sets, .inl (cL, 4, .inr (.inl v_sets)))]) ([.ref a_this, .int q1] : List Value).toArray s 0 0 A) (F0 m 0 ls []) by rw [eH, eL] at hG; exact hG
  refine lv_aload_n hx hb dX3_readItem_0 rfl (lv_at hl 0 rfl) ?_
  refine lv_iload_n hx hb dX3_readItem_1 rfl (lv_at hl 1 rfl) ?_
  obtain ⟨u12, hu12, hf⟩ := bd_some hf
  refine caVI (rest := []) (As := [.int q1]) (wr := [(a_sets, .inl (cL, 4, .inr (.inl g_sets)))]) (wo := [(a_this, .inr (3, [.ref a_letters, .ref a_sets, .int g_length, .long g_numbers])), (a_letters, .inl (cC, 200, .inl g_letters)), (a_sets, .inl (cL, 4, .inr (.inl g_sets)))]) ⟨hx, hb, hml, hown, hts⟩ hN hP hD hS hA (cX3_letterAt_ct l D cI cL cC cZ a_this a_letters a_sets g_length g_numbers g_letters q1 u12 hu12) z3 0 3 rfl rfl [0, 1] [2] [1, 2, 0] rfl (by decide) rfl (by decide) (by decide) rfl (by decide) rfl hl.1 rfl (Nat.le_of_ble_eq_true rfl) dX3_readItem_2 ⟨Nat.zero_le _, Nat.zero_le _⟩ (fun H locs hP hD hS => ?_)
  refine lv_istore_n (lv' := [(2, .int u12), (0, .ref a_this), (1, .int q1)]) hx hb dX3_readItem_5 rfl hl (by decide) rfl (fun ls hl => ?_)
  refine lv_aload_n hx hb dX3_readItem_6 rfl (lv_at hl 1 rfl) ?_
  refine lv_iload_n hx hb dX3_readItem_7 rfl (lv_at hl 2 rfl) ?_
  refine lv_iconst (v := 1) hx hb dX3_readItem_8 (by decide) ?_
  refine lv_iadd hx hb dX3_readItem_9 ?_
  obtain ⟨u13, hu13, hf⟩ := bd_some hf
  refine caVI (rest := []) (As := [.int (q1 + (1 : Int32))]) (wr := [(a_sets, .inl (cL, 4, .inr (.inl g_sets)))]) (wo := [(a_this, .inr (3, [.ref a_letters, .ref a_sets, .int g_length, .long g_numbers])), (a_letters, .inl (cC, 200, .inl g_letters)), (a_sets, .inl (cL, 4, .inr (.inl g_sets)))]) ⟨hx, hb, hml, hown, hts⟩ hN hP hD hS hA (cX3_figuresAt_ct l D cI cL cC cZ a_this a_letters a_sets g_length g_numbers g_letters (q1 + (1 : Int32)) u13 hu13) z9 0 3 rfl rfl [0, 1] [2] [1, 2, 0] rfl (by decide) rfl (by decide) (by decide) rfl (by decide) rfl hl.1 rfl (Nat.le_of_ble_eq_true rfl) dX3_readItem_10 ⟨Nat.zero_le _, Nat.zero_le _⟩ (fun H locs hP hD hS => ?_)
  refine lv_istore_n (lv' := [(3, .int u13), (2, .int u12), (0, .ref a_this), (1, .int q1)]) hx hb dX3_readItem_13 rfl hl (by decide) rfl (fun ls hl => ?_)
  refine lv_iload_n hx hb dX3_readItem_14 rfl (lv_at hl 1 rfl) ?_
  refine lv_bipush (v := 115) hx hb dX3_readItem_15 (by decide) ?_
  refine lv_icmp_eq (tgt := 26) hx hb dX3_readItem_17 (by decide) (fun c14 => ?_) (fun c14 => ?_)
  · have hf := br_pos c14 hf
    exact w26 q1 u12 u13 g_length g_numbers g_letters g_sets H locs ls hf hP hD hS (lv_sub hl [2, 3, 1, 0] rfl)
  · have hf := br_neg c14 hf
    refine lv_iload_n hx hb dX3_readItem_20 rfl (lv_at hl 1 rfl) ?_
    refine lv_bipush (v := 101) hx hb dX3_readItem_21 (by decide) ?_
    refine lv_icmp_ne (tgt := 30) hx hb dX3_readItem_23 (by decide) (fun c15 => ?_) (fun c15 => ?_)
    · have hf := br_neg c15 hf
      refine lv_iconst (v := -1) hx hb dX3_readItem_30 (by decide) ?_
      have hE : ((-1 : Int32), g_numbers, g_sets) = (r0, v_numbers, v_sets) := Option.some.inj hf
      simp only [Prod.mk.injEq] at hE
      obtain ⟨rfl, rfl, rfl⟩ := hE
      exact rtI hx hb hr hlk hP hD hS dX3_readItem_31
    · have hf := br_pos c15 hf
      exact w26 q1 u12 u13 g_length g_numbers g_letters g_sets H locs ls hf hP hD hS (lv_sub hl [2, 3, 1, 0] rfl)
abbrev rmX3_read : Room := { frames := 5, cells := 0, slots := 0, locals := 114 }
noncomputable def bX3_read_10 (g_length : Int32) (g_letters : Nat → Int32) (x1 : Int32) (g_numbers : Int64) (g_sets : Nat → Int64) : Option ((Int32 × Int64 × (Nat → Int64)) ⊕ (Int32 × Int64 × (Nat → Int64))) := br (g_length ≤ x1) (some (Sum.inr (((-4 : Int32), g_numbers, g_sets)))) (bd (fX3_readItem x1 g_length g_numbers g_letters g_sets) (fun u2 => br (x1 < u2.1) (some (Sum.inl ((u2.1, u2.2.1, u2.2.2)))) (some (Sum.inr ((x1, u2.2.1, u2.2.2))))))
noncomputable def sX3_read_10 (g_length : Int32) (g_letters : Nat → Int32) : (Int32 × Int64 × (Nat → Int64)) → Option ((Int32 × Int64 × (Nat → Int64)) ⊕ (Int32 × Int64 × (Nat → Int64))) := fun q => bX3_read_10 g_length g_letters q.1 q.2.1 q.2.2
noncomputable def fX3_read (g_length : Int32) (g_numbers : Int64) (g_letters : Nat → Int32) (g_sets : Nat → Int64) : Option (Int32 × Int64 × (Nat → Int64)) := bd (fJ7_fill_d0a16 (0 : Int64) 4 g_sets) (fun u4 => run (sX3_read_10 g_length g_letters) (((0 : Int32), g_numbers, u4)))
set_option maxHeartbeats 4000000 in
set_option maxRecDepth 100000 in
theorem cX3_read_ct (l : Launch) (D : va_G) (cI cL cC cZ : ClassId) (a_this a_letters a_sets : Nat) (g_length : Int32) (g_numbers : Int64) (g_letters : Nat → Int32) (g_sets : Nat → Int64) (r0 : Int32) (v_numbers : Int64) (v_sets : Nat → Int64) (hf : fX3_read g_length g_numbers g_letters g_sets = some ((r0, v_numbers, v_sets))) : CtI l yX3_read wsX3_read rmX3_read D (tyz cI cL cC cZ) [.ref a_this] [(a_this, .inr (3, [.ref a_letters, .ref a_sets, .int g_length, .long g_numbers])), (a_letters, .inl (cC, 200, .inl g_letters)), (a_sets, .inl (cL, 4, .inr (.inl g_sets)))] [(a_this, .inr (3, [.ref a_letters, .ref a_sets, .int g_length, .long v_numbers])), (a_letters, .inl (cC, 200, .inl g_letters)), (a_sets, .inl (cL, 4, .inr (.inl v_sets)))] r0 := by
  refine CtI.make (cc := cX3_read) (maxL := 3) (ty := .int) (by decide) rfl (Nat.le_of_ble_eq_true rfl) ?_
  intro p e s m below meth c A ls C0 hN hA hP hD hl
  obtain ⟨hx, hb, hr, hml, hown, hts, hlk⟩ := id C0
  have hown : s.vm.findClass RX3 = some m.cls := hown
  have hS : va_S A s.heap s.heap [] := va_S.rf
  have hP : va_P D vwCl [(a_this, .inr (3, [.ref a_letters, .ref a_sets, .int g_length, .long g_numbers])), (a_letters, .inl (cC, 200, .inl g_letters)), (a_sets, .inl (cL, 4, .inr (.inl g_sets)))] s.heap := hP
  have hD : va_D A [(a_this, .inr (3, [.ref a_letters, .ref a_sets, .int g_length, .long g_numbers])), (a_letters, .inl (cC, 200, .inl g_letters)), (a_sets, .inl (cL, 4, .inr (.inl g_sets)))] := hD
  have hl : lv_has ls 3 [(0, .ref a_this)] := hl
  have z1 : ∀ w ∈ u_ws RX3 TX3 4, w ∈ wsX3_read := by decide +kernel
  have z2 := hts (.fieldLink RX3 19 "LittleSums$Script" "length" "I") (by decide +kernel)
  have z3 := cwV (R := rmX3_read) (rm := rmX3_readItem) (mc := 0) (ms := 0) 1 hts gX3_read_X3_readItem rfl rfl rfl (by decide +kernel) ⟨Nat.le_of_ble_eq_true rfl, Nat.le_of_ble_eq_true rfl⟩
  have z4 := hts (.fieldLink RX3 15 "LittleSums$Script" "sets" "[J") (by decide +kernel)
  have z5 := va_cwS (R := rmX3_read) (rm := rmJ7_fill_d0a16) (mc := 0) (ms := 0) 2 hts gX3_read_J7_fill_d0a16 rfl rfl rfl (by decide +kernel) ⟨Nat.le_of_ble_eq_true rfl, Nat.le_of_ble_eq_true rfl⟩
  have w10 : ∀ (g_length : Int32) (g_letters : Nat → Int32) (x1 : Int32) (g_numbers : Int64) (g_sets : Nat → Int64) (t : Int32 × Int64 × (Nat → Int64)) (H : Heap) (locs : List Loc) (ls : Array Slot), run (sX3_read_10 g_length g_letters) ((x1, g_numbers, g_sets)) = some t → (fun z => z = (r0, v_numbers, v_sets)) t → va_P D vwCl [(a_this, .inr (3, [.ref a_letters, .ref a_sets, .int g_length, .long g_numbers])), (a_letters, .inl (cC, 200, .inl g_letters)), (a_sets, .inl (cL, 4, .inr (.inl g_sets)))] H → va_D A [(a_this, .inr (3, [.ref a_letters, .ref a_sets, .int g_length, .long g_numbers])), (a_letters, .inl (cC, 200, .inl g_letters)), (a_sets, .inl (cL, 4, .inr (.inl g_sets)))] → va_S A s.heap H locs → lv_has ls 3 [(0, .ref a_this), (1, .int x1)] → W p l e rmX3_read s m ([.ref a_this] : List Value).toArray below meth c H locs 0 0 (MQ below (cQi D r0 A [(a_this, .inr (3, [.ref a_letters, .ref a_sets, .int g_length, .long v_numbers])), (a_letters, .inl (cC, 200, .inl g_letters)), (a_sets, .inl (cL, 4, .inr (.inl v_sets)))]) ([.ref a_this] : List Value).toArray s 0 0 A) (F0 m 10 ls []) := by
    intro g_length g_letters
    obtain ⟨F10, eF10⟩ : ∃ F : (Int32 × Int64 × (Nat → Int64)) → Prop, F = fun q => ∀ (H : Heap) (locs : List Loc) (ls : Array Slot), va_P D vwCl [(a_this, .inr (3, [.ref a_letters, .ref a_sets, .int g_length, .long q.2.1])), (a_letters, .inl (cC, 200, .inl g_letters)), (a_sets, .inl (cL, 4, .inr (.inl q.2.2)))] H → va_D A [(a_this, .inr (3, [.ref a_letters, .ref a_sets, .int g_length, .long q.2.1])), (a_letters, .inl (cC, 200, .inl g_letters)), (a_sets, .inl (cL, 4, .inr (.inl q.2.2)))] → va_S A s.heap H locs → lv_has ls 3 [(0, .ref a_this), (1, .int q.1)] → W p l e rmX3_read s m ([.ref a_this] : List Value).toArray below meth c H locs 0 0 (MQ below (cQi D r0 A [(a_this, .inr (3, [.ref a_letters, .ref a_sets, .int g_length, .long v_numbers])), (a_letters, .inl (cC, 200, .inl g_letters)), (a_sets, .inl (cL, 4, .inr (.inl v_sets)))]) ([.ref a_this] : List Value).toArray s 0 0 A) (F0 m 10 ls []) := ⟨_, rfl⟩
    have key : ∀ (q : Int32 × Int64 × (Nat → Int64)) (t : Int32 × Int64 × (Nat → Int64)), run (sX3_read_10 g_length g_letters) q = some t → (fun z => z = (r0, v_numbers, v_sets)) t → F10 q := by
      refine loop_rule (sX3_read_10 g_length g_letters) F10 (fun z => z = (r0, v_numbers, v_sets)) ?_
      intro q t hf hF
      have hF : (Sum.elim F10 (fun z => z = (r0, v_numbers, v_sets))) t := hF
      rw [eF10]
      obtain ⟨x1, g_numbers, g_sets⟩ := q
      intro H locs ls hP hD hS hl
      have hP : va_P D vwCl [(a_this, .inr (3, [.ref a_letters, .ref a_sets, .int g_length, .long g_numbers])), (a_letters, .inl (cC, 200, .inl g_letters)), (a_sets, .inl (cL, 4, .inr (.inl g_sets)))] H := hP
      have hD : va_D A [(a_this, .inr (3, [.ref a_letters, .ref a_sets, .int g_length, .long g_numbers])), (a_letters, .inl (cC, 200, .inl g_letters)), (a_sets, .inl (cL, 4, .inr (.inl g_sets)))] := hD
      have hl : lv_has ls 3 [(0, .ref a_this), (1, .int x1)] := hl
      have hf : bX3_read_10 g_length g_letters x1 g_numbers g_sets = some t := hf
      unfold bX3_read_10 at hf
      refine lv_iload_n hx hb dX3_read_10 rfl (lv_at hl 1 rfl) ?_
      refine lv_aload_n hx hb dX3_read_11 rfl (lv_at hl 0 rfl) ?_
      refine va_get (D := D) (ci := 3) (v := .int g_length) (C := RX3) (T := TX3) (N := 4) hx hb hts z1 hown hN.1 hP 0 rfl rfl 2 (by decide) z2 (fun _ h9 => h9) rfl dX3_read_12 ?_
      refine lv_icmp_ge (tgt := 36) hx hb dX3_read_15 (by decide) (fun c1 => ?_) (fun c1 => ?_)
      · have hf := br_pos c1 hf
        refine lv_bipush (v := -4) hx hb dX3_read_36 (by decide) ?_
        cases hf
        have hE : ((-4 : Int32), g_numbers, g_sets) = (r0, v_numbers, v_sets) := hF
        simp only [Prod.mk.injEq] at hE
        obtain ⟨rfl, rfl, rfl⟩ := hE
        exact rtI hx hb hr hlk hP hD hS dX3_read_38
      · have hf := br_neg c1 hf
        refine lv_aload_n hx hb dX3_read_18 rfl (lv_at hl 0 rfl) ?_
        refine lv_iload_n hx hb dX3_read_19 rfl (lv_at hl 1 rfl) ?_
        obtain ⟨u2, hu2, hf⟩ := bd_some hf
        refine caVI (rest := []) (As := [.int x1]) (wr := []) (wo := [(a_this, .inr (3, [.ref a_letters, .ref a_sets, .int g_length, .long u2.2.1])), (a_letters, .inl (cC, 200, .inl g_letters)), (a_sets, .inl (cL, 4, .inr (.inl u2.2.2)))]) ⟨hx, hb, hml, hown, hts⟩ hN hP hD hS hA (cX3_readItem_ct l D cI cL cC cZ a_this a_letters a_sets g_length g_numbers g_letters g_sets x1 u2.1 u2.2.1 u2.2.2 hu2) z3 0 3 rfl rfl [0, 1, 2] [] [0, 1, 2] rfl (by decide) rfl (by decide) (by decide) rfl (by decide) rfl hl.1 rfl (Nat.le_of_ble_eq_true rfl) dX3_read_20 ⟨Nat.zero_le _, Nat.zero_le _⟩ (fun H locs hP hD hS => ?_)
        refine lv_istore_n (lv' := [(2, .int u2.1), (0, .ref a_this), (1, .int x1)]) hx hb dX3_read_23 rfl hl (by decide) rfl (fun ls hl => ?_)
        refine lv_iload_n hx hb dX3_read_24 rfl (lv_at hl 0 rfl) ?_
        refine lv_iload_n hx hb dX3_read_25 rfl (lv_at hl 2 rfl) ?_
        refine lv_icmp_gt (tgt := 31) hx hb dX3_read_26 (by decide) (fun c3 => ?_) (fun c3 => ?_)
        · have hf := br_pos c3 hf
          refine lv_iload_n hx hb dX3_read_31 rfl (lv_at hl 0 rfl) ?_
          refine lv_istore_n (lv' := [(1, .int u2.1), (2, .int u2.1), (0, .ref a_this)]) hx hb dX3_read_32 rfl hl (by decide) rfl (fun ls hl => ?_)
          refine lv_goto (tgt := 10) hx hb dX3_read_33 (by decide) ?_
          cases hf
          exact ((congrFun eF10 _).mp hF) H locs ls hP hD hS (lv_sub hl [2, 0] rfl)
        · have hf := br_neg c3 hf
          refine lv_iload_n hx hb dX3_read_29 rfl (lv_at hl 2 rfl) ?_
          cases hf
          have hE : (x1, u2.2.1, u2.2.2) = (r0, v_numbers, v_sets) := hF
          simp only [Prod.mk.injEq] at hE
          obtain ⟨rfl, rfl, rfl⟩ := hE
          exact rtI hx hb hr hlk hP hD hS dX3_read_30
    intro x1 g_numbers g_sets t H locs ls hf hF hP hD hS hl
    exact ((congrFun eF10 _).mp (key ((x1, g_numbers, g_sets)) t hf hF)) H locs ls hP hD hS hl
  unfold fX3_read at hf
  obtain ⟨H, eH⟩ : ∃ z, z = s.heap := ⟨_, rfl⟩
  obtain ⟨locs, eL⟩ : ∃ z : List Loc, z = [] := ⟨_, rfl⟩
  have hP : va_P D vwCl [(a_this, .inr (3, [.ref a_letters, .ref a_sets, .int g_length, .long g_numbers])), (a_letters, .inl (cC, 200, .inl g_letters)), (a_sets, .inl (cL, 4, .inr (.inl g_sets)))] H := by rw [eH]; exact hP
  have hS : va_S A s.heap H locs := by rw [eH, eL]; exact hS
  suffices hG : W p l e rmX3_read s m ([.ref a_this] : List Value).toArray below meth c H locs 0 0 (MQ below (cQi D r0 A [(a_this, .inr (3, [.ref a_letters, .ref a_sets, .int g_length, .long v_numbers])), (a_letters, .inl (cC, 200, .inl g_letters)), (a_sets, .inl (cL, 4, .inr (.inl v_sets)))]) ([.ref a_this] : List Value).toArray s 0 0 A) (F0 m 0 ls []) by rw [eH, eL] at hG; exact hG
  refine lv_aload_n hx hb dX3_read_0 rfl (lv_at hl 0 rfl) ?_
  refine va_get (D := D) (ci := 3) (v := .ref a_sets) (C := RX3) (T := TX3) (N := 4) hx hb hts z1 hown hN.1 hP 0 rfl rfl 1 (by decide) z4 (fun _ h9 => h9) rfl dX3_read_1 ?_
  refine lv_lconst (v := 0) hx hb dX3_read_4 (by decide) ?_
  obtain ⟨u4, hu4, hf⟩ := bd_some hf
  refine caSV (rest := []) (As := [.ref a_sets, .long (0 : Int64)]) (wr := [(a_this, .inr (3, [.ref a_letters, .ref a_sets, .int g_length, .long g_numbers])), (a_letters, .inl (cC, 200, .inl g_letters))]) (wo := [(a_this, .inr (3, [.ref a_letters, .ref a_sets, .int g_length, .long g_numbers])), (a_letters, .inl (cC, 200, .inl g_letters)), (a_sets, .inl (cL, 4, .inr (.inl u4)))]) ⟨hx, hb, hml, hown, hts⟩ hN hP hD hS hA (cJ7_fill_d0a16_ct l D cI cL cC cZ a_sets 4 g_sets (0 : Int64) u4 hu4) z5 [2] [0, 1] [0, 1, 2] rfl (by decide) rfl (by decide) (by decide) rfl (by decide) rfl hl.1 rfl (Nat.le_of_ble_eq_true rfl) dX3_read_5 ⟨Nat.zero_le _, Nat.zero_le _⟩ (fun H locs hP hD hS => ?_)
  refine lv_iconst (v := 0) hx hb dX3_read_8 (by decide) ?_
  refine lv_istore_n (lv' := [(1, .int (0 : Int32)), (0, .ref a_this)]) hx hb dX3_read_9 rfl hl (by decide) rfl (fun ls hl => ?_)
  exact w10 g_length g_letters (0 : Int32) g_numbers u4 (r0, v_numbers, v_sets) H locs ls hf rfl hP hD hS (lv_sub hl [1, 0] rfl)
abbrev rmX4_isTold : Room := { frames := 0, cells := 0, slots := 0, locals := 0 }
noncomputable def bX4_isTold_43 : Option (Int32) := gd ((0 : Int32) = 0 ∨ (0 : Int32) = 1) (some ((0 : Int32)))
noncomputable def fX4_isTold (q0 : Int32) (q1 : Int32) : Option (Int32) := br (q0 = (1 : Int32)) (br (q1 = 0) (gd ((1 : Int32) = 0 ∨ (1 : Int32) = 1) (some ((1 : Int32)))) (gd ((0 : Int32) = 0 ∨ (0 : Int32) = 1) (some ((0 : Int32))))) (br (q0 ≤ (1 : Int32)) (bX4_isTold_43) (br ((8 : Int32) < q0) (bX4_isTold_43) (br (q1 < (q0 - (1 : Int32))) (bX4_isTold_43) (br ((14 : Int32) < q1) (bX4_isTold_43) (gd ((1 : Int32) = 0 ∨ (1 : Int32) = 1) (some ((1 : Int32))))))))
set_option maxHeartbeats 4000000 in
set_option maxRecDepth 100000 in
theorem cX4_isTold_ct (l : Launch) (D : va_G) (cI cL cC cZ : ClassId) (q0 : Int32) (q1 : Int32) (r0 : Int32) (hf : fX4_isTold q0 q1 = some r0) : CtI l yX4_isTold wsX4_isTold rmX4_isTold D (tyz cI cL cC cZ) [.int q0, .int q1] [] [] r0 := by
  refine CtI.make (cc := cX4_isTold) (maxL := 2) (ty := .boolean) (by decide) rfl (Nat.le_of_ble_eq_true rfl) ?_
  intro p e s m below meth c A ls C0 hN hA hP hD hl
  obtain ⟨hx, hb, hr, hml, hown, hts, hlk⟩ := id C0
  have hown : s.vm.findClass RX4 = some m.cls := hown
  have hS : va_S A s.heap s.heap [] := va_S.rf
  have hP : va_P D vwCl [] s.heap := hP
  have hD : va_D A [] := hD
  have hl : lv_has ls 2 [(0, .int q0), (1, .int q1)] := hl
  have w43 : ∀ (H : Heap) (locs : List Loc) (ls : Array Slot), bX4_isTold_43 = some r0 → va_P D vwCl [] H → va_D A [] → va_S A s.heap H locs → lv_has ls 2 [] → W p l e rmX4_isTold s m ([.int q0, .int q1] : List Value).toArray below meth c H locs 0 0 (MQ below (cQi D r0 A []) ([.int q0, .int q1] : List Value).toArray s 0 0 A) (F0 m 43 ls []) := by
    intro  H locs ls hf hP hD hS hl
    unfold bX4_isTold_43 at hf
    refine lv_iconst (v := 0) hx hb dX4_isTold_43 (by decide) ?_
    obtain ⟨c1, hf⟩ := gd_some hf
    have hE : (0 : Int32) = r0 := Option.some.inj hf
    subst hE
    exact rtZ hx hb hr hlk c1 hP hD hS dX4_isTold_44
  unfold fX4_isTold at hf
  obtain ⟨H, eH⟩ : ∃ z, z = s.heap := ⟨_, rfl⟩
  obtain ⟨locs, eL⟩ : ∃ z : List Loc, z = [] := ⟨_, rfl⟩
  have hP : va_P D vwCl [] H := by rw [eH]; exact hP
  have hS : va_S A s.heap H locs := by rw [eH, eL]; exact hS
  suffices hG : W p l e rmX4_isTold s m ([.int q0, .int q1] : List Value).toArray below meth c H locs 0 0 (MQ below (cQi D r0 A []) ([.int q0, .int q1] : List Value).toArray s 0 0 A) (F0 m 0 ls []) by rw [eH, eL] at hG; exact hG
  refine lv_iload_n hx hb dX4_isTold_0 rfl (lv_at hl 0 rfl) ?_
  refine lv_iconst (v := 1) hx hb dX4_isTold_1 (by decide) ?_
  refine lv_icmp_ne (tgt := 15) hx hb dX4_isTold_2 (by decide) (fun c2 => ?_) (fun c2 => ?_)
  · have hf := br_neg c2 hf
    refine lv_iload_n hx hb dX4_isTold_15 rfl (lv_at hl 0 rfl) ?_
    refine lv_iconst (v := 1) hx hb dX4_isTold_16 (by decide) ?_
    refine lv_icmp_le (tgt := 43) hx hb dX4_isTold_17 (by decide) (fun c3 => ?_) (fun c3 => ?_)
    · have hf := br_pos c3 hf
      exact w43  H locs ls hf hP hD hS (lv_sub hl [] rfl)
    · have hf := br_neg c3 hf
      refine lv_iload_n hx hb dX4_isTold_20 rfl (lv_at hl 0 rfl) ?_
      refine lv_bipush (v := 8) hx hb dX4_isTold_21 (by decide) ?_
      refine lv_icmp_gt (tgt := 43) hx hb dX4_isTold_23 (by decide) (fun c4 => ?_) (fun c4 => ?_)
      · have hf := br_pos c4 hf
        exact w43  H locs ls hf hP hD hS (lv_sub hl [] rfl)
      · have hf := br_neg c4 hf
        refine lv_iload_n hx hb dX4_isTold_26 rfl (lv_at hl 1 rfl) ?_
        refine lv_iload_n hx hb dX4_isTold_27 rfl (lv_at hl 0 rfl) ?_
        refine lv_iconst (v := 1) hx hb dX4_isTold_28 (by decide) ?_
        refine lv_isub hx hb dX4_isTold_29 ?_
        refine lv_icmp_lt (tgt := 43) hx hb dX4_isTold_30 (by decide) (fun c5 => ?_) (fun c5 => ?_)
        · have hf := br_pos c5 hf
          exact w43  H locs ls hf hP hD hS (lv_sub hl [] rfl)
        · have hf := br_neg c5 hf
          refine lv_iload_n hx hb dX4_isTold_33 rfl (lv_at hl 1 rfl) ?_
          refine lv_bipush (v := 14) hx hb dX4_isTold_34 (by decide) ?_
          refine lv_icmp_gt (tgt := 43) hx hb dX4_isTold_36 (by decide) (fun c6 => ?_) (fun c6 => ?_)
          · have hf := br_pos c6 hf
            exact w43  H locs ls hf hP hD hS (lv_sub hl [] rfl)
          · have hf := br_neg c6 hf
            refine lv_iconst (v := 1) hx hb dX4_isTold_39 (by decide) ?_
            refine lv_goto (tgt := 44) hx hb dX4_isTold_40 (by decide) ?_
            obtain ⟨c7, hf⟩ := gd_some hf
            have hE : (1 : Int32) = r0 := Option.some.inj hf
            subst hE
            exact rtZ hx hb hr hlk c7 hP hD hS dX4_isTold_44
  · have hf := br_pos c2 hf
    refine lv_iload_n hx hb dX4_isTold_5 rfl (lv_at hl 1 rfl) ?_
    refine lv_if_ne (tgt := 13) hx hb dX4_isTold_6 (by decide) (fun c8 => ?_) (fun c8 => ?_)
    · have hf := br_neg c8 hf
      refine lv_iconst (v := 0) hx hb dX4_isTold_13 (by decide) ?_
      obtain ⟨c9, hf⟩ := gd_some hf
      have hE : (0 : Int32) = r0 := Option.some.inj hf
      subst hE
      exact rtZ hx hb hr hlk c9 hP hD hS dX4_isTold_14
    · have hf := br_pos c8 hf
      refine lv_iconst (v := 1) hx hb dX4_isTold_9 (by decide) ?_
      refine lv_goto (tgt := 14) hx hb dX4_isTold_10 (by decide) ?_
      obtain ⟨c10, hf⟩ := gd_some hf
      have hE : (1 : Int32) = r0 := Option.some.inj hf
      subst hE
      exact rtZ hx hb hr hlk c10 hP hD hS dX4_isTold_14
abbrev rmX4_fewest : Room := { frames := 0, cells := 0, slots := 0, locals := 0 }
noncomputable def fX4_fewest (g_fewest : Int32) : Option (Int32) := some (g_fewest)
set_option maxHeartbeats 4000000 in
set_option maxRecDepth 100000 in
theorem cX4_fewest_ct (l : Launch) (D : va_G) (cI cL cC cZ : ClassId) (a_this : Nat) (g_numbers : Int32) (g_length : Int32) (g_fewest : Int32) (g_size : Int32) (r0 : Int32) (hf : fX4_fewest g_fewest = some r0) : CtI l yX4_fewest wsX4_fewest rmX4_fewest D (tyz cI cL cC cZ) [.ref a_this] [(a_this, .inr (4, [.int g_numbers, .int g_length, .int g_fewest, .int g_size]))] [(a_this, .inr (4, [.int g_numbers, .int g_length, .int g_fewest, .int g_size]))] r0 := by
  refine CtI.make (cc := cX4_fewest) (maxL := 1) (ty := .int) (by decide) rfl (Nat.le_of_ble_eq_true rfl) ?_
  intro p e s m below meth c A ls C0 hN hA hP hD hl
  obtain ⟨hx, hb, hr, hml, hown, hts, hlk⟩ := id C0
  have hown : s.vm.findClass RX4 = some m.cls := hown
  have hS : va_S A s.heap s.heap [] := va_S.rf
  have hP : va_P D vwCl [(a_this, .inr (4, [.int g_numbers, .int g_length, .int g_fewest, .int g_size]))] s.heap := hP
  have hD : va_D A [(a_this, .inr (4, [.int g_numbers, .int g_length, .int g_fewest, .int g_size]))] := hD
  have hl : lv_has ls 1 [(0, .ref a_this)] := hl
  have z1 : ∀ w ∈ u_ws RX4 TX4 4, w ∈ wsX4_fewest := by decide +kernel
  have z2 := hts (.fieldLink RX4 11 "LittleSums$SmallestSearch" "fewest" "I") (by decide +kernel)
  unfold fX4_fewest at hf
  obtain ⟨H, eH⟩ : ∃ z, z = s.heap := ⟨_, rfl⟩
  obtain ⟨locs, eL⟩ : ∃ z : List Loc, z = [] := ⟨_, rfl⟩
  have hP : va_P D vwCl [(a_this, .inr (4, [.int g_numbers, .int g_length, .int g_fewest, .int g_size]))] H := by rw [eH]; exact hP
  have hS : va_S A s.heap H locs := by rw [eH, eL]; exact hS
  suffices hG : W p l e rmX4_fewest s m ([.ref a_this] : List Value).toArray below meth c H locs 0 0 (MQ below (cQi D r0 A [(a_this, .inr (4, [.int g_numbers, .int g_length, .int g_fewest, .int g_size]))]) ([.ref a_this] : List Value).toArray s 0 0 A) (F0 m 0 ls []) by rw [eH, eL] at hG; exact hG
  refine lv_aload_n hx hb dX4_fewest_0 rfl (lv_at hl 0 rfl) ?_
  refine va_get (D := D) (ci := 4) (v := .int g_fewest) (C := RX4) (T := TX4) (N := 4) hx hb hts z1 hown hN.1 hP 0 rfl rfl 2 (by decide) z2 (fun _ h9 => h9) rfl dX4_fewest_1 ?_
  have hE : g_fewest = r0 := Option.some.inj hf
  subst hE
  exact rtI hx hb hr hlk hP hD hS dX4_fewest_4
abbrev rmX4_size : Room := { frames := 0, cells := 0, slots := 0, locals := 0 }
noncomputable def fX4_size (g_size : Int32) : Option (Int32) := some (g_size)
set_option maxHeartbeats 4000000 in
set_option maxRecDepth 100000 in
theorem cX4_size_ct (l : Launch) (D : va_G) (cI cL cC cZ : ClassId) (a_this : Nat) (g_numbers : Int32) (g_length : Int32) (g_fewest : Int32) (g_size : Int32) (r0 : Int32) (hf : fX4_size g_size = some r0) : CtI l yX4_size wsX4_size rmX4_size D (tyz cI cL cC cZ) [.ref a_this] [(a_this, .inr (4, [.int g_numbers, .int g_length, .int g_fewest, .int g_size]))] [(a_this, .inr (4, [.int g_numbers, .int g_length, .int g_fewest, .int g_size]))] r0 := by
  refine CtI.make (cc := cX4_size) (maxL := 1) (ty := .int) (by decide) rfl (Nat.le_of_ble_eq_true rfl) ?_
  intro p e s m below meth c A ls C0 hN hA hP hD hl
  obtain ⟨hx, hb, hr, hml, hown, hts, hlk⟩ := id C0
  have hown : s.vm.findClass RX4 = some m.cls := hown
  have hS : va_S A s.heap s.heap [] := va_S.rf
  have hP : va_P D vwCl [(a_this, .inr (4, [.int g_numbers, .int g_length, .int g_fewest, .int g_size]))] s.heap := hP
  have hD : va_D A [(a_this, .inr (4, [.int g_numbers, .int g_length, .int g_fewest, .int g_size]))] := hD
  have hl : lv_has ls 1 [(0, .ref a_this)] := hl
  have z1 : ∀ w ∈ u_ws RX4 TX4 4, w ∈ wsX4_size := by decide +kernel
  have z2 := hts (.fieldLink RX4 15 "LittleSums$SmallestSearch" "size" "I") (by decide +kernel)
  unfold fX4_size at hf
  obtain ⟨H, eH⟩ : ∃ z, z = s.heap := ⟨_, rfl⟩
  obtain ⟨locs, eL⟩ : ∃ z : List Loc, z = [] := ⟨_, rfl⟩
  have hP : va_P D vwCl [(a_this, .inr (4, [.int g_numbers, .int g_length, .int g_fewest, .int g_size]))] H := by rw [eH]; exact hP
  have hS : va_S A s.heap H locs := by rw [eH, eL]; exact hS
  suffices hG : W p l e rmX4_size s m ([.ref a_this] : List Value).toArray below meth c H locs 0 0 (MQ below (cQi D r0 A [(a_this, .inr (4, [.int g_numbers, .int g_length, .int g_fewest, .int g_size]))]) ([.ref a_this] : List Value).toArray s 0 0 A) (F0 m 0 ls []) by rw [eH, eL] at hG; exact hG
  refine lv_aload_n hx hb dX4_size_0 rfl (lv_at hl 0 rfl) ?_
  refine va_get (D := D) (ci := 4) (v := .int g_size) (C := RX4) (T := TX4) (N := 4) hx hb hts z1 hown hN.1 hP 0 rfl rfl 3 (by decide) z2 (fun _ h9 => h9) rfl dX4_size_1 ?_
  have hE : g_size = r0 := Option.some.inj hf
  subst hE
  exact rtI hx hb hr hlk hP hD hS dX4_size_4
abbrev rmX4_betweens : Room := { frames := 0, cells := 0, slots := 0, locals := 0 }
noncomputable def bX4_betweens_17 (g_length : Int32) : Option (Int32) := some ((1 : Int32))
noncomputable def fX4_betweens (g_length : Int32) : Option (Int32) := br (g_length < (1 : Int32)) (bX4_betweens_17 g_length) (br (g_length ≤ (14 : Int32)) (some ((1 : Int32) <<< ((g_length - (1 : Int32)) &&& 31))) (bX4_betweens_17 g_length))
set_option maxHeartbeats 4000000 in
set_option maxRecDepth 100000 in
theorem cX4_betweens_ct (l : Launch) (D : va_G) (cI cL cC cZ : ClassId) (a_this : Nat) (g_numbers : Int32) (g_length : Int32) (g_fewest : Int32) (g_size : Int32) (r0 : Int32) (hf : fX4_betweens g_length = some r0) : CtI l yX4_betweens wsX4_betweens rmX4_betweens D (tyz cI cL cC cZ) [.ref a_this] [(a_this, .inr (4, [.int g_numbers, .int g_length, .int g_fewest, .int g_size]))] [(a_this, .inr (4, [.int g_numbers, .int g_length, .int g_fewest, .int g_size]))] r0 := by
  refine CtI.make (cc := cX4_betweens) (maxL := 1) (ty := .int) (by decide) rfl (Nat.le_of_ble_eq_true rfl) ?_
  intro p e s m below meth c A ls C0 hN hA hP hD hl
  obtain ⟨hx, hb, hr, hml, hown, hts, hlk⟩ := id C0
  have hown : s.vm.findClass RX4 = some m.cls := hown
  have hS : va_S A s.heap s.heap [] := va_S.rf
  have hP : va_P D vwCl [(a_this, .inr (4, [.int g_numbers, .int g_length, .int g_fewest, .int g_size]))] s.heap := hP
  have hD : va_D A [(a_this, .inr (4, [.int g_numbers, .int g_length, .int g_fewest, .int g_size]))] := hD
  have hl : lv_has ls 1 [(0, .ref a_this)] := hl
  have z1 : ∀ w ∈ u_ws RX4 TX4 4, w ∈ wsX4_betweens := by decide +kernel
  have z2 := hts (.fieldLink RX4 21 "LittleSums$SmallestSearch" "length" "I") (by decide +kernel)
  have w17 : ∀ (g_length : Int32) (H : Heap) (locs : List Loc) (ls : Array Slot), bX4_betweens_17 g_length = some r0 → va_P D vwCl [(a_this, .inr (4, [.int g_numbers, .int g_length, .int g_fewest, .int g_size]))] H → va_D A [(a_this, .inr (4, [.int g_numbers, .int g_length, .int g_fewest, .int g_size]))] → va_S A s.heap H locs → lv_has ls 1 [] → W p l e rmX4_betweens s m ([.ref a_this] : List Value).toArray below meth c H locs 0 0 (MQ below (cQi D r0 A [(a_this, .inr (4, [.int g_numbers, .int g_length, .int g_fewest, .int g_size]))]) ([.ref a_this] : List Value).toArray s 0 0 A) (F0 m 17 ls []) := by
    intro g_length H locs ls hf hP hD hS hl
    unfold bX4_betweens_17 at hf
    refine lv_iconst (v := 1) hx hb dX4_betweens_17 (by decide) ?_
    refine lv_goto (tgt := 29) hx hb dX4_betweens_18 (by decide) ?_
    have hE : (1 : Int32) = r0 := Option.some.inj hf
    subst hE
    exact rtI hx hb hr hlk hP hD hS dX4_betweens_29
  unfold fX4_betweens at hf
  obtain ⟨H, eH⟩ : ∃ z, z = s.heap := ⟨_, rfl⟩
  obtain ⟨locs, eL⟩ : ∃ z : List Loc, z = [] := ⟨_, rfl⟩
  have hP : va_P D vwCl [(a_this, .inr (4, [.int g_numbers, .int g_length, .int g_fewest, .int g_size]))] H := by rw [eH]; exact hP
  have hS : va_S A s.heap H locs := by rw [eH, eL]; exact hS
  suffices hG : W p l e rmX4_betweens s m ([.ref a_this] : List Value).toArray below meth c H locs 0 0 (MQ below (cQi D r0 A [(a_this, .inr (4, [.int g_numbers, .int g_length, .int g_fewest, .int g_size]))]) ([.ref a_this] : List Value).toArray s 0 0 A) (F0 m 0 ls []) by rw [eH, eL] at hG; exact hG
  refine lv_aload_n hx hb dX4_betweens_0 rfl (lv_at hl 0 rfl) ?_
  refine va_get (D := D) (ci := 4) (v := .int g_length) (C := RX4) (T := TX4) (N := 4) hx hb hts z1 hown hN.1 hP 0 rfl rfl 1 (by decide) z2 (fun _ h9 => h9) rfl dX4_betweens_1 ?_
  refine lv_iconst (v := 1) hx hb dX4_betweens_4 (by decide) ?_
  refine lv_icmp_lt (tgt := 17) hx hb dX4_betweens_5 (by decide) (fun c1 => ?_) (fun c1 => ?_)
  · have hf := br_pos c1 hf
    exact w17 g_length H locs ls hf hP hD hS (lv_sub hl [] rfl)
  · have hf := br_neg c1 hf
    refine lv_aload_n hx hb dX4_betweens_8 rfl (lv_at hl 0 rfl) ?_
    refine va_get (D := D) (ci := 4) (v := .int g_length) (C := RX4) (T := TX4) (N := 4) hx hb hts z1 hown hN.1 hP 0 rfl rfl 1 (by decide) z2 (fun _ h9 => h9) rfl dX4_betweens_9 ?_
    refine lv_bipush (v := 14) hx hb dX4_betweens_12 (by decide) ?_
    refine lv_icmp_le (tgt := 21) hx hb dX4_betweens_14 (by decide) (fun c2 => ?_) (fun c2 => ?_)
    · have hf := br_pos c2 hf
      refine lv_iconst (v := 1) hx hb dX4_betweens_21 (by decide) ?_
      refine lv_aload_n hx hb dX4_betweens_22 rfl (lv_at hl 0 rfl) ?_
      refine va_get (D := D) (ci := 4) (v := .int g_length) (C := RX4) (T := TX4) (N := 4) hx hb hts z1 hown hN.1 hP 0 rfl rfl 1 (by decide) z2 (fun _ h9 => h9) rfl dX4_betweens_23 ?_
      refine lv_iconst (v := 1) hx hb dX4_betweens_26 (by decide) ?_
      refine lv_isub hx hb dX4_betweens_27 ?_
      refine lv_ishl hx hb dX4_betweens_28 ?_
      have hE : (1 : Int32) <<< ((g_length - (1 : Int32)) &&& 31) = r0 := Option.some.inj hf
      subst hE
      exact rtI hx hb hr hlk hP hD hS dX4_betweens_29
    · have hf := br_neg c2 hf
      exact w17 g_length H locs ls hf hP hD hS (lv_sub hl [] rfl)
abbrev rmX4_setWith : Room := { frames := 0, cells := 0, slots := 0, locals := 0 }
noncomputable def fX4_setWith (q1 : Int32) (g_length : Int32) : Option (Int32) := some (((1 : Int32) ||| (q1 <<< ((1 : Int32) &&& 31))) ||| ((1 : Int32) <<< (g_length &&& 31)))
set_option maxHeartbeats 4000000 in
set_option maxRecDepth 100000 in
theorem cX4_setWith_ct (l : Launch) (D : va_G) (cI cL cC cZ : ClassId) (a_this : Nat) (g_numbers : Int32) (g_length : Int32) (g_fewest : Int32) (g_size : Int32) (q1 : Int32) (r0 : Int32) (hf : fX4_setWith q1 g_length = some r0) : CtI l yX4_setWith wsX4_setWith rmX4_setWith D (tyz cI cL cC cZ) [.ref a_this, .int q1] [(a_this, .inr (4, [.int g_numbers, .int g_length, .int g_fewest, .int g_size]))] [(a_this, .inr (4, [.int g_numbers, .int g_length, .int g_fewest, .int g_size]))] r0 := by
  refine CtI.make (cc := cX4_setWith) (maxL := 2) (ty := .int) (by decide) rfl (Nat.le_of_ble_eq_true rfl) ?_
  intro p e s m below meth c A ls C0 hN hA hP hD hl
  obtain ⟨hx, hb, hr, hml, hown, hts, hlk⟩ := id C0
  have hown : s.vm.findClass RX4 = some m.cls := hown
  have hS : va_S A s.heap s.heap [] := va_S.rf
  have hP : va_P D vwCl [(a_this, .inr (4, [.int g_numbers, .int g_length, .int g_fewest, .int g_size]))] s.heap := hP
  have hD : va_D A [(a_this, .inr (4, [.int g_numbers, .int g_length, .int g_fewest, .int g_size]))] := hD
  have hl : lv_has ls 2 [(0, .ref a_this), (1, .int q1)] := hl
  have z1 : ∀ w ∈ u_ws RX4 TX4 4, w ∈ wsX4_setWith := by decide +kernel
  have z2 := hts (.fieldLink RX4 21 "LittleSums$SmallestSearch" "length" "I") (by decide +kernel)
  unfold fX4_setWith at hf
  obtain ⟨H, eH⟩ : ∃ z, z = s.heap := ⟨_, rfl⟩
  obtain ⟨locs, eL⟩ : ∃ z : List Loc, z = [] := ⟨_, rfl⟩
  have hP : va_P D vwCl [(a_this, .inr (4, [.int g_numbers, .int g_length, .int g_fewest, .int g_size]))] H := by rw [eH]; exact hP
  have hS : va_S A s.heap H locs := by rw [eH, eL]; exact hS
  suffices hG : W p l e rmX4_setWith s m ([.ref a_this, .int q1] : List Value).toArray below meth c H locs 0 0 (MQ below (cQi D r0 A [(a_this, .inr (4, [.int g_numbers, .int g_length, .int g_fewest, .int g_size]))]) ([.ref a_this, .int q1] : List Value).toArray s 0 0 A) (F0 m 0 ls []) by rw [eH, eL] at hG; exact hG
  refine lv_iconst (v := 1) hx hb dX4_setWith_0 (by decide) ?_
  refine lv_iload_n hx hb dX4_setWith_1 rfl (lv_at hl 1 rfl) ?_
  refine lv_iconst (v := 1) hx hb dX4_setWith_2 (by decide) ?_
  refine lv_ishl hx hb dX4_setWith_3 ?_
  refine lv_ior hx hb dX4_setWith_4 ?_
  refine lv_iconst (v := 1) hx hb dX4_setWith_5 (by decide) ?_
  refine lv_aload_n hx hb dX4_setWith_6 rfl (lv_at hl 0 rfl) ?_
  refine va_get (D := D) (ci := 4) (v := .int g_length) (C := RX4) (T := TX4) (N := 4) hx hb hts z1 hown hN.1 hP 0 rfl rfl 1 (by decide) z2 (fun _ h9 => h9) rfl dX4_setWith_7 ?_
  refine lv_ishl hx hb dX4_setWith_10 ?_
  refine lv_ior hx hb dX4_setWith_11 ?_
  have hE : ((1 : Int32) ||| (q1 <<< ((1 : Int32) &&& 31))) ||| ((1 : Int32) <<< (g_length &&& 31)) = r0 := Option.some.inj hf
  subst hE
  exact rtI hx hb hr hlk hP hD hS dX4_setWith_12
abbrev rmX4_sumsWithItself : Room := { frames := 1, cells := 0, slots := 0, locals := 20 }
noncomputable def bX4_sumsWithItself_26 (x1 : Int32) (x2 : Int32) (x3 : Int32) (g_length : Int32) : Option ((Int32 × Int32) ⊕ (Int32)) := lt_ (x3 + (1 : Int32)) (fun y1 => some (Sum.inl ((x2, y1))))
noncomputable def bX4_sumsWithItself_4 (x1 : Int32) (g_length : Int32) (x2 : Int32) (x3 : Int32) : Option ((Int32 × Int32) ⊕ (Int32)) := br (g_length < x3) (bd (fJ6_bitCount_0f7a4 x2) (fun u3 => some (Sum.inr (u3)))) (br ((((x1.toUInt32 >>> (x3.toUInt32 &&& Int32.toUInt32 31)).toInt32) &&& (1 : Int32)) = 0) (bX4_sumsWithItself_26 x1 x2 x3 g_length) (lt_ (x2 ||| (x1 <<< (x3 &&& 31))) (fun y5 => bX4_sumsWithItself_26 x1 y5 x3 g_length)))
noncomputable def sX4_sumsWithItself_4 (x1 : Int32) (g_length : Int32) : (Int32 × Int32) → Option ((Int32 × Int32) ⊕ (Int32)) := fun q => bX4_sumsWithItself_4 x1 g_length q.1 q.2
noncomputable def fX4_sumsWithItself (q1 : Int32) (g_length : Int32) : Option (Int32) := run (sX4_sumsWithItself_4 q1 g_length) (((0 : Int32), (0 : Int32)))
set_option maxHeartbeats 4000000 in
set_option maxRecDepth 100000 in
theorem cX4_sumsWithItself_ct (l : Launch) (D : va_G) (cI cL cC cZ : ClassId) (a_this : Nat) (g_numbers : Int32) (g_length : Int32) (g_fewest : Int32) (g_size : Int32) (q1 : Int32) (r0 : Int32) (hf : fX4_sumsWithItself q1 g_length = some r0) : CtI l yX4_sumsWithItself wsX4_sumsWithItself rmX4_sumsWithItself D (tyz cI cL cC cZ) [.ref a_this, .int q1] [(a_this, .inr (4, [.int g_numbers, .int g_length, .int g_fewest, .int g_size]))] [(a_this, .inr (4, [.int g_numbers, .int g_length, .int g_fewest, .int g_size]))] r0 := by
  refine CtI.make (cc := cX4_sumsWithItself) (maxL := 4) (ty := .int) (by decide) rfl (Nat.le_of_ble_eq_true rfl) ?_
  intro p e s m below meth c A ls C0 hN hA hP hD hl
  obtain ⟨hx, hb, hr, hml, hown, hts, hlk⟩ := id C0
  have hown : s.vm.findClass RX4 = some m.cls := hown
  have hS : va_S A s.heap s.heap [] := va_S.rf
  have hP : va_P D vwCl [(a_this, .inr (4, [.int g_numbers, .int g_length, .int g_fewest, .int g_size]))] s.heap := hP
  have hD : va_D A [(a_this, .inr (4, [.int g_numbers, .int g_length, .int g_fewest, .int g_size]))] := hD
  have hl : lv_has ls 4 [(0, .ref a_this), (1, .int q1)] := hl
  have z1 : ∀ w ∈ u_ws RX4 TX4 4, w ∈ wsX4_sumsWithItself := by decide +kernel
  have z2 := hts (.fieldLink RX4 21 "LittleSums$SmallestSearch" "length" "I") (by decide +kernel)
  have z3 := va_cwS (R := rmX4_sumsWithItself) (rm := rmJ6_bitCount_0f7a4) (mc := 0) (ms := 0) 1 hts gX4_sumsWithItself_J6_bitCount_0f7a4 rfl rfl rfl (by decide +kernel) ⟨Nat.le_of_ble_eq_true rfl, Nat.le_of_ble_eq_true rfl⟩
  have w4 : ∀ (x1 : Int32) (g_length : Int32) (x2 : Int32) (x3 : Int32) (t : Int32) (H : Heap) (locs : List Loc) (ls : Array Slot), run (sX4_sumsWithItself_4 x1 g_length) ((x2, x3)) = some t → (fun z => z = r0) t → va_P D vwCl [(a_this, .inr (4, [.int g_numbers, .int g_length, .int g_fewest, .int g_size]))] H → va_D A [(a_this, .inr (4, [.int g_numbers, .int g_length, .int g_fewest, .int g_size]))] → va_S A s.heap H locs → lv_has ls 4 [(0, .ref a_this), (1, .int x1), (2, .int x2), (3, .int x3)] → W p l e rmX4_sumsWithItself s m ([.ref a_this, .int q1] : List Value).toArray below meth c H locs 0 0 (MQ below (cQi D r0 A [(a_this, .inr (4, [.int g_numbers, .int g_length, .int g_fewest, .int g_size]))]) ([.ref a_this, .int q1] : List Value).toArray s 0 0 A) (F0 m 4 ls []) := by
    intro x1 g_length
    obtain ⟨F4, eF4⟩ : ∃ F : (Int32 × Int32) → Prop, F = fun q => ∀ (H : Heap) (locs : List Loc) (ls : Array Slot), va_P D vwCl [(a_this, .inr (4, [.int g_numbers, .int g_length, .int g_fewest, .int g_size]))] H → va_D A [(a_this, .inr (4, [.int g_numbers, .int g_length, .int g_fewest, .int g_size]))] → va_S A s.heap H locs → lv_has ls 4 [(0, .ref a_this), (1, .int x1), (2, .int q.1), (3, .int q.2)] → W p l e rmX4_sumsWithItself s m ([.ref a_this, .int q1] : List Value).toArray below meth c H locs 0 0 (MQ below (cQi D r0 A [(a_this, .inr (4, [.int g_numbers, .int g_length, .int g_fewest, .int g_size]))]) ([.ref a_this, .int q1] : List Value).toArray s 0 0 A) (F0 m 4 ls []) := ⟨_, rfl⟩
    have key : ∀ (q : Int32 × Int32) (t : Int32), run (sX4_sumsWithItself_4 x1 g_length) q = some t → (fun z => z = r0) t → F4 q := by
      refine loop_rule (sX4_sumsWithItself_4 x1 g_length) F4 (fun z => z = r0) ?_
      intro q t hf hF
      have hF : (Sum.elim F4 (fun z => z = r0)) t := hF
      have w26 : ∀ (x2 : Int32) (x3 : Int32) (t : (Int32 × Int32) ⊕ (Int32)) (H : Heap) (locs : List Loc) (ls : Array Slot), bX4_sumsWithItself_26 x1 x2 x3 g_length = some t → (Sum.elim F4 (fun z => z = r0)) t → va_P D vwCl [(a_this, .inr (4, [.int g_numbers, .int g_length, .int g_fewest, .int g_size]))] H → va_D A [(a_this, .inr (4, [.int g_numbers, .int g_length, .int g_fewest, .int g_size]))] → va_S A s.heap H locs → lv_has ls 4 [(0, .ref a_this), (1, .int x1), (2, .int x2), (3, .int x3)] → W p l e rmX4_sumsWithItself s m ([.ref a_this, .int q1] : List Value).toArray below meth c H locs 0 0 (MQ below (cQi D r0 A [(a_this, .inr (4, [.int g_numbers, .int g_length, .int g_fewest, .int g_size]))]) ([.ref a_this, .int q1] : List Value).toArray s 0 0 A) (F0 m 26 ls []) := by
        intro x2 x3 t H locs ls hf hF hP hD hS hl
        unfold bX4_sumsWithItself_26 at hf
        obtain ⟨y1, ey1⟩ : ∃ z : Int32, z = x3 + (1 : Int32) := ⟨_, rfl⟩
        have hf := lt_some hf y1 ey1
        refine lv_iinc (v := y1) (lv' := [(3, .int y1), (0, .ref a_this), (1, .int x1), (2, .int x2)]) hx hb dX4_sumsWithItself_26 hl (k := 3) rfl (by rw [ey1]; rfl) (by decide) rfl (fun ls hl => ?_)
        refine lv_goto (tgt := 4) hx hb dX4_sumsWithItself_29 (by decide) ?_
        cases hf
        exact ((congrFun eF4 _).mp hF) H locs ls hP hD hS (lv_sub hl [1, 2, 3, 0] rfl)
      rw [eF4]
      obtain ⟨x2, x3⟩ := q
      intro H locs ls hP hD hS hl
      have hP : va_P D vwCl [(a_this, .inr (4, [.int g_numbers, .int g_length, .int g_fewest, .int g_size]))] H := hP
      have hD : va_D A [(a_this, .inr (4, [.int g_numbers, .int g_length, .int g_fewest, .int g_size]))] := hD
      have hl : lv_has ls 4 [(0, .ref a_this), (1, .int x1), (2, .int x2), (3, .int x3)] := hl
      have hf : bX4_sumsWithItself_4 x1 g_length x2 x3 = some t := hf
      unfold bX4_sumsWithItself_4 at hf
      refine lv_iload_n hx hb dX4_sumsWithItself_4 rfl (lv_at hl 3 rfl) ?_
      refine lv_aload_n hx hb dX4_sumsWithItself_5 rfl (lv_at hl 0 rfl) ?_
      refine va_get (D := D) (ci := 4) (v := .int g_length) (C := RX4) (T := TX4) (N := 4) hx hb hts z1 hown hN.1 hP 0 rfl rfl 1 (by decide) z2 (fun _ h9 => h9) rfl dX4_sumsWithItself_6 ?_
      refine lv_icmp_gt (tgt := 32) hx hb dX4_sumsWithItself_9 (by decide) (fun c2 => ?_) (fun c2 => ?_)
      · have hf := br_pos c2 hf
        refine lv_iload_n hx hb dX4_sumsWithItself_32 rfl (lv_at hl 2 rfl) ?_
        obtain ⟨u3, hu3, hf⟩ := bd_some hf
        refine caSI (rest := []) (As := [.int x2]) (wr := [(a_this, .inr (4, [.int g_numbers, .int g_length, .int g_fewest, .int g_size]))]) (wo := [(a_this, .inr (4, [.int g_numbers, .int g_length, .int g_fewest, .int g_size]))]) ⟨hx, hb, hml, hown, hts⟩ hN hP hD hS hA (cJ6_bitCount_0f7a4_ct l D cI cL cC cZ x2 u3 hu3) z3 [] [0] [0] rfl (by decide) rfl (by decide) (by decide) rfl (by decide) rfl hl.1 rfl (Nat.le_of_ble_eq_true rfl) dX4_sumsWithItself_33 ⟨Nat.zero_le _, Nat.zero_le _⟩ (fun H locs hP hD hS => ?_)
        cases hf
        have hE : u3 = r0 := hF
        subst hE
        exact rtI hx hb hr hlk hP hD hS dX4_sumsWithItself_36
      · have hf := br_neg c2 hf
        refine lv_iload_n hx hb dX4_sumsWithItself_12 rfl (lv_at hl 1 rfl) ?_
        refine lv_iload_n hx hb dX4_sumsWithItself_13 rfl (lv_at hl 3 rfl) ?_
        refine lv_iushr hx hb dX4_sumsWithItself_14 rfl ?_
        refine lv_iconst (v := 1) hx hb dX4_sumsWithItself_15 (by decide) ?_
        refine lv_iand hx hb dX4_sumsWithItself_16 ?_
        refine lv_if_eq (tgt := 26) hx hb dX4_sumsWithItself_17 (by decide) (fun c4 => ?_) (fun c4 => ?_)
        · have hf := br_pos c4 hf
          exact w26 x2 x3 _ H locs ls hf hF hP hD hS (lv_sub hl [0, 1, 2, 3] rfl)
        · have hf := br_neg c4 hf
          refine lv_iload_n hx hb dX4_sumsWithItself_20 rfl (lv_at hl 2 rfl) ?_
          refine lv_iload_n hx hb dX4_sumsWithItself_21 rfl (lv_at hl 1 rfl) ?_
          refine lv_iload_n hx hb dX4_sumsWithItself_22 rfl (lv_at hl 3 rfl) ?_
          refine lv_ishl hx hb dX4_sumsWithItself_23 ?_
          refine lv_ior hx hb dX4_sumsWithItself_24 ?_
          refine lv_topi (fun y5 ey5 => ?_)
          have hf := lt_some hf y5 ey5
          refine lv_istore_n (lv' := [(2, .int y5), (0, .ref a_this), (1, .int x1), (3, .int x3)]) hx hb dX4_sumsWithItself_25 rfl hl (by decide) rfl (fun ls hl => ?_)
          exact w26 y5 x3 _ H locs ls hf hF hP hD hS (lv_sub hl [1, 2, 0, 3] rfl)
    intro x2 x3 t H locs ls hf hF hP hD hS hl
    exact ((congrFun eF4 _).mp (key ((x2, x3)) t hf hF)) H locs ls hP hD hS hl
  unfold fX4_sumsWithItself at hf
  obtain ⟨H, eH⟩ : ∃ z, z = s.heap := ⟨_, rfl⟩
  obtain ⟨locs, eL⟩ : ∃ z : List Loc, z = [] := ⟨_, rfl⟩
  have hP : va_P D vwCl [(a_this, .inr (4, [.int g_numbers, .int g_length, .int g_fewest, .int g_size]))] H := by rw [eH]; exact hP
  have hS : va_S A s.heap H locs := by rw [eH, eL]; exact hS
  suffices hG : W p l e rmX4_sumsWithItself s m ([.ref a_this, .int q1] : List Value).toArray below meth c H locs 0 0 (MQ below (cQi D r0 A [(a_this, .inr (4, [.int g_numbers, .int g_length, .int g_fewest, .int g_size]))]) ([.ref a_this, .int q1] : List Value).toArray s 0 0 A) (F0 m 0 ls []) by rw [eH, eL] at hG; exact hG
  refine lv_iconst (v := 0) hx hb dX4_sumsWithItself_0 (by decide) ?_
  refine lv_istore_n (lv' := [(2, .int (0 : Int32)), (0, .ref a_this), (1, .int q1)]) hx hb dX4_sumsWithItself_1 rfl hl (by decide) rfl (fun ls hl => ?_)
  refine lv_iconst (v := 0) hx hb dX4_sumsWithItself_2 (by decide) ?_
  refine lv_istore_n (lv' := [(3, .int (0 : Int32)), (2, .int (0 : Int32)), (0, .ref a_this), (1, .int q1)]) hx hb dX4_sumsWithItself_3 rfl hl (by decide) rfl (fun ls hl => ?_)
  exact w4 q1 g_length (0 : Int32) (0 : Int32) r0 H locs ls hf rfl hP hD hS (lv_sub hl [2, 3, 1, 0] rfl)
abbrev rmX4_countIn : Room := { frames := 0, cells := 0, slots := 0, locals := 0 }
noncomputable def bX4_countIn_25 (x1 : Int32) (g_fewest : Int32) (g_size : Int32) : Option (Int32 × Int32) := br (x1 = g_fewest) (lt_ (g_size + (1 : Int32)) (fun y2 => some ((g_fewest, y2)))) (some ((g_fewest, g_size)))
noncomputable def bX4_countIn_15 (x1 : Int32) (g_fewest : Int32) (g_size : Int32) : Option (Int32 × Int32) := bX4_countIn_25 x1 x1 (0 : Int32)
noncomputable def fX4_countIn (q1 : Int32) (g_fewest : Int32) (g_size : Int32) : Option (Int32 × Int32) := br (g_size = 0) (bX4_countIn_15 q1 g_fewest g_size) (br (g_fewest ≤ q1) (bX4_countIn_25 q1 g_fewest g_size) (bX4_countIn_15 q1 g_fewest g_size))
set_option maxHeartbeats 4000000 in
set_option maxRecDepth 100000 in
theorem cX4_countIn_ct (l : Launch) (D : va_G) (cI cL cC cZ : ClassId) (a_this : Nat) (g_numbers : Int32) (g_length : Int32) (g_fewest : Int32) (g_size : Int32) (q1 : Int32) (v_fewest : Int32) (v_size : Int32) (hf : fX4_countIn q1 g_fewest g_size = some ((v_fewest, v_size))) : CtV l yX4_countIn wsX4_countIn rmX4_countIn D (tyz cI cL cC cZ) [.ref a_this, .int q1] [(a_this, .inr (4, [.int g_numbers, .int g_length, .int g_fewest, .int g_size]))] [(a_this, .inr (4, [.int g_numbers, .int g_length, .int v_fewest, .int v_size]))] := by
  refine CtV.make (cc := cX4_countIn) (maxL := 2) (by decide) rfl (Nat.le_of_ble_eq_true rfl) ?_
  intro p e s m below meth c A ls C0 hN hA hP hD hl
  obtain ⟨hx, hb, hr, hml, hown, hts, hlk⟩ := id C0
  have hown : s.vm.findClass RX4 = some m.cls := hown
  have hS : va_S A s.heap s.heap [] := va_S.rf
  have hP : va_P D vwCl [(a_this, .inr (4, [.int g_numbers, .int g_length, .int g_fewest, .int g_size]))] s.heap := hP
  have hD : va_D A [(a_this, .inr (4, [.int g_numbers, .int g_length, .int g_fewest, .int g_size]))] := hD
  have hl : lv_has ls 2 [(0, .ref a_this), (1, .int q1)] := hl
  have z1 : ∀ w ∈ u_ws RX4 TX4 4, w ∈ wsX4_countIn := by decide +kernel
  have z2 := hts (.fieldLink RX4 11 "LittleSums$SmallestSearch" "fewest" "I") (by decide +kernel)
  have z3 := hts (.fieldLink RX4 15 "LittleSums$SmallestSearch" "size" "I") (by decide +kernel)
  have w25 : ∀ (x1 : Int32) (g_fewest : Int32) (g_size : Int32) (H : Heap) (locs : List Loc) (ls : Array Slot), bX4_countIn_25 x1 g_fewest g_size = some ((v_fewest, v_size)) → va_P D vwCl [(a_this, .inr (4, [.int g_numbers, .int g_length, .int g_fewest, .int g_size]))] H → va_D A [(a_this, .inr (4, [.int g_numbers, .int g_length, .int g_fewest, .int g_size]))] → va_S A s.heap H locs → lv_has ls 2 [(0, .ref a_this), (1, .int x1)] → W p l e rmX4_countIn s m ([.ref a_this, .int q1] : List Value).toArray below meth c H locs 0 0 (MQ below (cQv D A [(a_this, .inr (4, [.int g_numbers, .int g_length, .int v_fewest, .int v_size]))]) ([.ref a_this, .int q1] : List Value).toArray s 0 0 A) (F0 m 25 ls []) := by
    intro x1 g_fewest g_size H locs ls hf hP hD hS hl
    unfold bX4_countIn_25 at hf
    refine lv_iload_n hx hb dX4_countIn_25 rfl (lv_at hl 1 rfl) ?_
    refine lv_aload_n hx hb dX4_countIn_26 rfl (lv_at hl 0 rfl) ?_
    refine va_get (D := D) (ci := 4) (v := .int g_fewest) (C := RX4) (T := TX4) (N := 4) hx hb hts z1 hown hN.1 hP 0 rfl rfl 2 (by decide) z2 (fun _ h9 => h9) rfl dX4_countIn_27 ?_
    refine lv_icmp_ne (tgt := 43) hx hb dX4_countIn_30 (by decide) (fun c1 => ?_) (fun c1 => ?_)
    · have hf := br_neg c1 hf
      have hE : (g_fewest, g_size) = (v_fewest, v_size) := Option.some.inj hf
      simp only [Prod.mk.injEq] at hE
      obtain ⟨rfl, rfl⟩ := hE
      exact rtV hx hb hr hlk hP hD hS dX4_countIn_43
    · have hf := br_pos c1 hf
      refine lv_aload_n hx hb dX4_countIn_33 rfl (lv_at hl 0 rfl) ?_
      refine lv_dup hx hb dX4_countIn_34 rfl ?_
      refine va_get (D := D) (ci := 4) (v := .int g_size) (C := RX4) (T := TX4) (N := 4) hx hb hts z1 hown hN.1 hP 0 rfl rfl 3 (by decide) z3 (fun _ h9 => h9) rfl dX4_countIn_35 ?_
      refine lv_iconst (v := 1) hx hb dX4_countIn_38 (by decide) ?_
      refine lv_iadd hx hb dX4_countIn_39 ?_
      refine lv_topi (fun y2 ey2 => ?_)
      have hf := lt_some hf y2 ey2
      refine va_put (D := D) (ci := 4) (v := .int y2) (ty := .int) (C := RX4) (T := TX4) (N := 4) hx hb hts z1 tyX4 tyX4_ok nmX4 hown hN.1 hP hD hS 0 rfl rfl 3 (by decide) z3 (fun _ h9 => h9) rfl (by decide +kernel) rfl rfl (Nat.le_of_ble_eq_true rfl) dX4_countIn_40 (fun H locs hP hD hS => ?_)
      have hP : va_P D vwCl [(a_this, .inr (4, [.int g_numbers, .int g_length, .int g_fewest, .int y2]))] H := hP
      have hD : va_D A [(a_this, .inr (4, [.int g_numbers, .int g_length, .int g_fewest, .int y2]))] := hD
      have hE : (g_fewest, y2) = (v_fewest, v_size) := Option.some.inj hf
      simp only [Prod.mk.injEq] at hE
      obtain ⟨rfl, rfl⟩ := hE
      exact rtV hx hb hr hlk hP hD hS dX4_countIn_43
  have w15 : ∀ (x1 : Int32) (g_fewest : Int32) (g_size : Int32) (H : Heap) (locs : List Loc) (ls : Array Slot), bX4_countIn_15 x1 g_fewest g_size = some ((v_fewest, v_size)) → va_P D vwCl [(a_this, .inr (4, [.int g_numbers, .int g_length, .int g_fewest, .int g_size]))] H → va_D A [(a_this, .inr (4, [.int g_numbers, .int g_length, .int g_fewest, .int g_size]))] → va_S A s.heap H locs → lv_has ls 2 [(0, .ref a_this), (1, .int x1)] → W p l e rmX4_countIn s m ([.ref a_this, .int q1] : List Value).toArray below meth c H locs 0 0 (MQ below (cQv D A [(a_this, .inr (4, [.int g_numbers, .int g_length, .int v_fewest, .int v_size]))]) ([.ref a_this, .int q1] : List Value).toArray s 0 0 A) (F0 m 15 ls []) := by
    intro x1 g_fewest g_size H locs ls hf hP hD hS hl
    unfold bX4_countIn_15 at hf
    refine lv_aload_n hx hb dX4_countIn_15 rfl (lv_at hl 0 rfl) ?_
    refine lv_iload_n hx hb dX4_countIn_16 rfl (lv_at hl 1 rfl) ?_
    refine va_put (D := D) (ci := 4) (v := .int x1) (ty := .int) (C := RX4) (T := TX4) (N := 4) hx hb hts z1 tyX4 tyX4_ok nmX4 hown hN.1 hP hD hS 0 rfl rfl 2 (by decide) z2 (fun _ h9 => h9) rfl (by decide +kernel) rfl rfl (Nat.le_of_ble_eq_true rfl) dX4_countIn_17 (fun H locs hP hD hS => ?_)
    have hP : va_P D vwCl [(a_this, .inr (4, [.int g_numbers, .int g_length, .int x1, .int g_size]))] H := hP
    have hD : va_D A [(a_this, .inr (4, [.int g_numbers, .int g_length, .int x1, .int g_size]))] := hD
    refine lv_aload_n hx hb dX4_countIn_20 rfl (lv_at hl 0 rfl) ?_
    refine lv_iconst (v := 0) hx hb dX4_countIn_21 (by decide) ?_
    refine va_put (D := D) (ci := 4) (v := .int (0 : Int32)) (ty := .int) (C := RX4) (T := TX4) (N := 4) hx hb hts z1 tyX4 tyX4_ok nmX4 hown hN.1 hP hD hS 0 rfl rfl 3 (by decide) z3 (fun _ h9 => h9) rfl (by decide +kernel) rfl rfl (Nat.le_of_ble_eq_true rfl) dX4_countIn_22 (fun H locs hP hD hS => ?_)
    have hP : va_P D vwCl [(a_this, .inr (4, [.int g_numbers, .int g_length, .int x1, .int (0 : Int32)]))] H := hP
    have hD : va_D A [(a_this, .inr (4, [.int g_numbers, .int g_length, .int x1, .int (0 : Int32)]))] := hD
    exact w25 x1 x1 (0 : Int32) H locs ls hf hP hD hS (lv_sub hl [0, 1] rfl)
  unfold fX4_countIn at hf
  obtain ⟨H, eH⟩ : ∃ z, z = s.heap := ⟨_, rfl⟩
  obtain ⟨locs, eL⟩ : ∃ z : List Loc, z = [] := ⟨_, rfl⟩
  have hP : va_P D vwCl [(a_this, .inr (4, [.int g_numbers, .int g_length, .int g_fewest, .int g_size]))] H := by rw [eH]; exact hP
  have hS : va_S A s.heap H locs := by rw [eH, eL]; exact hS
  suffices hG : W p l e rmX4_countIn s m ([.ref a_this, .int q1] : List Value).toArray below meth c H locs 0 0 (MQ below (cQv D A [(a_this, .inr (4, [.int g_numbers, .int g_length, .int v_fewest, .int v_size]))]) ([.ref a_this, .int q1] : List Value).toArray s 0 0 A) (F0 m 0 ls []) by rw [eH, eL] at hG; exact hG
  refine lv_aload_n hx hb dX4_countIn_0 rfl (lv_at hl 0 rfl) ?_
  refine va_get (D := D) (ci := 4) (v := .int g_size) (C := RX4) (T := TX4) (N := 4) hx hb hts z1 hown hN.1 hP 0 rfl rfl 3 (by decide) z3 (fun _ h9 => h9) rfl dX4_countIn_1 ?_
  refine lv_if_eq (tgt := 15) hx hb dX4_countIn_4 (by decide) (fun c3 => ?_) (fun c3 => ?_)
  · have hf := br_pos c3 hf
    exact w15 q1 g_fewest g_size H locs ls hf hP hD hS (lv_sub hl [0, 1] rfl)
  · have hf := br_neg c3 hf
    refine lv_iload_n hx hb dX4_countIn_7 rfl (lv_at hl 1 rfl) ?_
    refine lv_aload_n hx hb dX4_countIn_8 rfl (lv_at hl 0 rfl) ?_
    refine va_get (D := D) (ci := 4) (v := .int g_fewest) (C := RX4) (T := TX4) (N := 4) hx hb hts z1 hown hN.1 hP 0 rfl rfl 2 (by decide) z2 (fun _ h9 => h9) rfl dX4_countIn_9 ?_
    refine lv_icmp_ge (tgt := 25) hx hb dX4_countIn_12 (by decide) (fun c4 => ?_) (fun c4 => ?_)
    · have hf := br_pos c4 hf
      exact w25 q1 g_fewest g_size H locs ls hf hP hD hS (lv_sub hl [0, 1] rfl)
    · have hf := br_neg c4 hf
      exact w15 q1 g_fewest g_size H locs ls hf hP hD hS (lv_sub hl [0, 1] rfl)
abbrev rmX4_seek : Room := { frames := 2, cells := 0, slots := 0, locals := 43 }
noncomputable def bX4_seek_71 (x3 : Int32) (g_numbers : Int32) (g_length : Int32) (g_fewest : Int32) (g_size : Int32) : Option ((Int32 × Int32 × Int32) ⊕ (Int32 × Int32 × Int32 × Int32)) := lt_ (x3 + (1 : Int32)) (fun y1 => some (Sum.inl ((y1, g_fewest, g_size))))
noncomputable def bX4_seek_34 (g_numbers : Int32) (g_length : Int32) (x3 : Int32) (g_fewest : Int32) (g_size : Int32) : Option ((Int32 × Int32 × Int32) ⊕ (Int32 × Int32 × Int32 × Int32)) := bd (fX4_betweens g_length) (fun u2 => br (u2 ≤ x3) (some (Sum.inr ((g_numbers, g_length, g_fewest, g_size)))) (bd (fX4_setWith x3 g_length) (fun u4 => bd (fJ6_bitCount_0f7a4 u4) (fun u5 => br (u5 = g_numbers) (bd (fX4_sumsWithItself u4 g_length) (fun u7 => bd (fX4_countIn u7 g_fewest g_size) (fun u8 => bX4_seek_71 x3 g_numbers g_length u8.1 u8.2))) (bX4_seek_71 x3 g_numbers g_length g_fewest g_size)))))
noncomputable def sX4_seek_34 (g_numbers : Int32) (g_length : Int32) : (Int32 × Int32 × Int32) → Option ((Int32 × Int32 × Int32) ⊕ (Int32 × Int32 × Int32 × Int32)) := fun q => bX4_seek_34 g_numbers g_length q.1 q.2.1 q.2.2
noncomputable def bX4_seek_17 (x1 : Int32) (x2 : Int32) (g_numbers : Int32) (g_length : Int32) (g_fewest : Int32) (g_size : Int32) : Option (Int32 × Int32 × Int32 × Int32) := run (sX4_seek_34 x1 x2) (((0 : Int32), g_fewest, (0 : Int32)))
noncomputable def fX4_seek (q1 : Int32) (q2 : Int32) (g_numbers : Int32) (g_length : Int32) (g_fewest : Int32) (g_size : Int32) : Option (Int32 × Int32 × Int32 × Int32) := br (q1 = g_numbers) (br (q2 = g_length) (some ((g_numbers, g_length, g_fewest, g_size))) (bX4_seek_17 q1 q2 g_numbers g_length g_fewest g_size)) (bX4_seek_17 q1 q2 g_numbers g_length g_fewest g_size)
set_option maxHeartbeats 4000000 in
set_option maxRecDepth 100000 in
theorem cX4_seek_ct (l : Launch) (D : va_G) (cI cL cC cZ : ClassId) (a_this : Nat) (g_numbers : Int32) (g_length : Int32) (g_fewest : Int32) (g_size : Int32) (q1 : Int32) (q2 : Int32) (v_numbers : Int32) (v_length : Int32) (v_fewest : Int32) (v_size : Int32) (hf : fX4_seek q1 q2 g_numbers g_length g_fewest g_size = some ((v_numbers, v_length, v_fewest, v_size))) : CtV l yX4_seek wsX4_seek rmX4_seek D (tyz cI cL cC cZ) [.ref a_this, .int q1, .int q2] [(a_this, .inr (4, [.int g_numbers, .int g_length, .int g_fewest, .int g_size]))] [(a_this, .inr (4, [.int v_numbers, .int v_length, .int v_fewest, .int v_size]))] := by
  refine CtV.make (cc := cX4_seek) (maxL := 5) (by decide) rfl (Nat.le_of_ble_eq_true rfl) ?_
  intro p e s m below meth c A ls C0 hN hA hP hD hl
  obtain ⟨hx, hb, hr, hml, hown, hts, hlk⟩ := id C0
  have hown : s.vm.findClass RX4 = some m.cls := hown
  have hS : va_S A s.heap s.heap [] := va_S.rf
  have hP : va_P D vwCl [(a_this, .inr (4, [.int g_numbers, .int g_length, .int g_fewest, .int g_size]))] s.heap := hP
  have hD : va_D A [(a_this, .inr (4, [.int g_numbers, .int g_length, .int g_fewest, .int g_size]))] := hD
  have hl : lv_has ls 5 [(0, .ref a_this), (1, .int q1), (2, .int q2)] := hl
  have z1 := cwV (R := rmX4_seek) (rm := rmX4_betweens) (mc := 0) (ms := 0) 0 hts gX4_seek_X4_betweens rfl rfl rfl (by decide +kernel) ⟨Nat.le_of_ble_eq_true rfl, Nat.le_of_ble_eq_true rfl⟩
  have z2 := cwV (R := rmX4_seek) (rm := rmX4_setWith) (mc := 0) (ms := 0) 1 hts gX4_seek_X4_setWith rfl rfl rfl (by decide +kernel) ⟨Nat.le_of_ble_eq_true rfl, Nat.le_of_ble_eq_true rfl⟩
  have z3 := va_cwS (R := rmX4_seek) (rm := rmJ6_bitCount_0f7a4) (mc := 0) (ms := 0) 1 hts gX4_seek_J6_bitCount_0f7a4 rfl rfl rfl (by decide +kernel) ⟨Nat.le_of_ble_eq_true rfl, Nat.le_of_ble_eq_true rfl⟩
  have z4 : ∀ w ∈ u_ws RX4 TX4 4, w ∈ wsX4_seek := by decide +kernel
  have z5 := hts (.fieldLink RX4 18 "LittleSums$SmallestSearch" "numbers" "I") (by decide +kernel)
  have z6 := cwV (R := rmX4_seek) (rm := rmX4_sumsWithItself) (mc := 0) (ms := 0) 1 hts gX4_seek_X4_sumsWithItself rfl rfl rfl (by decide +kernel) ⟨Nat.le_of_ble_eq_true rfl, Nat.le_of_ble_eq_true rfl⟩
  have z7 := cwV (R := rmX4_seek) (rm := rmX4_countIn) (mc := 0) (ms := 0) 1 hts gX4_seek_X4_countIn rfl rfl rfl (by decide +kernel) ⟨Nat.le_of_ble_eq_true rfl, Nat.le_of_ble_eq_true rfl⟩
  have z8 := hts (.fieldLink RX4 21 "LittleSums$SmallestSearch" "length" "I") (by decide +kernel)
  have z9 := hts (.fieldLink RX4 15 "LittleSums$SmallestSearch" "size" "I") (by decide +kernel)
  have w34 : ∀ (g_numbers : Int32) (g_length : Int32) (x3 : Int32) (g_fewest : Int32) (g_size : Int32) (t : Int32 × Int32 × Int32 × Int32) (H : Heap) (locs : List Loc) (ls : Array Slot), run (sX4_seek_34 g_numbers g_length) ((x3, g_fewest, g_size)) = some t → (fun z => z = (v_numbers, v_length, v_fewest, v_size)) t → va_P D vwCl [(a_this, .inr (4, [.int g_numbers, .int g_length, .int g_fewest, .int g_size]))] H → va_D A [(a_this, .inr (4, [.int g_numbers, .int g_length, .int g_fewest, .int g_size]))] → va_S A s.heap H locs → lv_has ls 5 [(0, .ref a_this), (3, .int x3)] → W p l e rmX4_seek s m ([.ref a_this, .int q1, .int q2] : List Value).toArray below meth c H locs 0 0 (MQ below (cQv D A [(a_this, .inr (4, [.int v_numbers, .int v_length, .int v_fewest, .int v_size]))]) ([.ref a_this, .int q1, .int q2] : List Value).toArray s 0 0 A) (F0 m 34 ls []) := by
    intro g_numbers g_length
    obtain ⟨F34, eF34⟩ : ∃ F : (Int32 × Int32 × Int32) → Prop, F = fun q => ∀ (H : Heap) (locs : List Loc) (ls : Array Slot), va_P D vwCl [(a_this, .inr (4, [.int g_numbers, .int g_length, .int q.2.1, .int q.2.2]))] H → va_D A [(a_this, .inr (4, [.int g_numbers, .int g_length, .int q.2.1, .int q.2.2]))] → va_S A s.heap H locs → lv_has ls 5 [(0, .ref a_this), (3, .int q.1)] → W p l e rmX4_seek s m ([.ref a_this, .int q1, .int q2] : List Value).toArray below meth c H locs 0 0 (MQ below (cQv D A [(a_this, .inr (4, [.int v_numbers, .int v_length, .int v_fewest, .int v_size]))]) ([.ref a_this, .int q1, .int q2] : List Value).toArray s 0 0 A) (F0 m 34 ls []) := ⟨_, rfl⟩
    have key : ∀ (q : Int32 × Int32 × Int32) (t : Int32 × Int32 × Int32 × Int32), run (sX4_seek_34 g_numbers g_length) q = some t → (fun z => z = (v_numbers, v_length, v_fewest, v_size)) t → F34 q := by
      refine loop_rule (sX4_seek_34 g_numbers g_length) F34 (fun z => z = (v_numbers, v_length, v_fewest, v_size)) ?_
      intro q t hf hF
      have hF : (Sum.elim F34 (fun z => z = (v_numbers, v_length, v_fewest, v_size))) t := hF
      have w71 : ∀ (x3 : Int32) (g_fewest : Int32) (g_size : Int32) (t : (Int32 × Int32 × Int32) ⊕ (Int32 × Int32 × Int32 × Int32)) (H : Heap) (locs : List Loc) (ls : Array Slot), bX4_seek_71 x3 g_numbers g_length g_fewest g_size = some t → (Sum.elim F34 (fun z => z = (v_numbers, v_length, v_fewest, v_size))) t → va_P D vwCl [(a_this, .inr (4, [.int g_numbers, .int g_length, .int g_fewest, .int g_size]))] H → va_D A [(a_this, .inr (4, [.int g_numbers, .int g_length, .int g_fewest, .int g_size]))] → va_S A s.heap H locs → lv_has ls 5 [(0, .ref a_this), (3, .int x3)] → W p l e rmX4_seek s m ([.ref a_this, .int q1, .int q2] : List Value).toArray below meth c H locs 0 0 (MQ below (cQv D A [(a_this, .inr (4, [.int v_numbers, .int v_length, .int v_fewest, .int v_size]))]) ([.ref a_this, .int q1, .int q2] : List Value).toArray s 0 0 A) (F0 m 71 ls []) := by
        intro x3 g_fewest g_size t H locs ls hf hF hP hD hS hl
        unfold bX4_seek_71 at hf
        obtain ⟨y1, ey1⟩ : ∃ z : Int32, z = x3 + (1 : Int32) := ⟨_, rfl⟩
        have hf := lt_some hf y1 ey1
        refine lv_iinc (v := y1) (lv' := [(3, .int y1), (0, .ref a_this)]) hx hb dX4_seek_71 hl (k := 1) rfl (by rw [ey1]; rfl) (by decide) rfl (fun ls hl => ?_)
        refine lv_goto (tgt := 34) hx hb dX4_seek_74 (by decide) ?_
        cases hf
        exact ((congrFun eF34 _).mp hF) H locs ls hP hD hS (lv_sub hl [1, 0] rfl)
      rw [eF34]
      obtain ⟨x3, g_fewest, g_size⟩ := q
      intro H locs ls hP hD hS hl
      have hP : va_P D vwCl [(a_this, .inr (4, [.int g_numbers, .int g_length, .int g_fewest, .int g_size]))] H := hP
      have hD : va_D A [(a_this, .inr (4, [.int g_numbers, .int g_length, .int g_fewest, .int g_size]))] := hD
      have hl : lv_has ls 5 [(0, .ref a_this), (3, .int x3)] := hl
      have hf : bX4_seek_34 g_numbers g_length x3 g_fewest g_size = some t := hf
      unfold bX4_seek_34 at hf
      refine lv_iload_n hx hb dX4_seek_34 rfl (lv_at hl 1 rfl) ?_
      refine lv_aload_n hx hb dX4_seek_35 rfl (lv_at hl 0 rfl) ?_
      obtain ⟨u2, hu2, hf⟩ := bd_some hf
      refine caVI (rest := [.int x3]) (As := []) (wr := []) (wo := [(a_this, .inr (4, [.int g_numbers, .int g_length, .int g_fewest, .int g_size]))]) ⟨hx, hb, hml, hown, hts⟩ hN hP hD hS hA (cX4_betweens_ct l D cI cL cC cZ a_this g_numbers g_length g_fewest g_size u2 hu2) z1 0 4 rfl rfl [0] [] [0] rfl (by decide) rfl (by decide) (by decide) rfl (by decide) rfl hl.1 rfl (Nat.le_of_ble_eq_true rfl) dX4_seek_36 ⟨Nat.zero_le _, Nat.zero_le _⟩ (fun H locs hP hD hS => ?_)
      refine lv_icmp_ge (tgt := 77) hx hb dX4_seek_39 (by decide) (fun c3 => ?_) (fun c3 => ?_)
      · have hf := br_pos c3 hf
        cases hf
        have hE : (g_numbers, g_length, g_fewest, g_size) = (v_numbers, v_length, v_fewest, v_size) := hF
        simp only [Prod.mk.injEq] at hE
        obtain ⟨rfl, rfl, rfl, rfl⟩ := hE
        exact rtV hx hb hr hlk hP hD hS dX4_seek_77
      · have hf := br_neg c3 hf
        refine lv_aload_n hx hb dX4_seek_42 rfl (lv_at hl 0 rfl) ?_
        refine lv_iload_n hx hb dX4_seek_43 rfl (lv_at hl 1 rfl) ?_
        obtain ⟨u4, hu4, hf⟩ := bd_some hf
        refine caVI (rest := []) (As := [.int x3]) (wr := []) (wo := [(a_this, .inr (4, [.int g_numbers, .int g_length, .int g_fewest, .int g_size]))]) ⟨hx, hb, hml, hown, hts⟩ hN hP hD hS hA (cX4_setWith_ct l D cI cL cC cZ a_this g_numbers g_length g_fewest g_size x3 u4 hu4) z2 0 4 rfl rfl [0] [] [0] rfl (by decide) rfl (by decide) (by decide) rfl (by decide) rfl hl.1 rfl (Nat.le_of_ble_eq_true rfl) dX4_seek_44 ⟨Nat.zero_le _, Nat.zero_le _⟩ (fun H locs hP hD hS => ?_)
        refine lv_istore (lv' := [(4, .int u4), (0, .ref a_this), (3, .int x3)]) hx hb dX4_seek_47 hl (by decide) rfl (fun ls hl => ?_)
        refine lv_iload hx hb dX4_seek_49 (lv_at hl 0 rfl) ?_
        obtain ⟨u5, hu5, hf⟩ := bd_some hf
        refine caSI (rest := []) (As := [.int u4]) (wr := [(a_this, .inr (4, [.int g_numbers, .int g_length, .int g_fewest, .int g_size]))]) (wo := [(a_this, .inr (4, [.int g_numbers, .int g_length, .int g_fewest, .int g_size]))]) ⟨hx, hb, hml, hown, hts⟩ hN hP hD hS hA (cJ6_bitCount_0f7a4_ct l D cI cL cC cZ u4 u5 hu5) z3 [] [0] [0] rfl (by decide) rfl (by decide) (by decide) rfl (by decide) rfl hl.1 rfl (Nat.le_of_ble_eq_true rfl) dX4_seek_51 ⟨Nat.zero_le _, Nat.zero_le _⟩ (fun H locs hP hD hS => ?_)
        refine lv_aload_n hx hb dX4_seek_54 rfl (lv_at hl 1 rfl) ?_
        refine va_get (D := D) (ci := 4) (v := .int g_numbers) (C := RX4) (T := TX4) (N := 4) hx hb hts z4 hown hN.1 hP 0 rfl rfl 0 (by decide) z5 (fun _ h9 => h9) rfl dX4_seek_55 ?_
        refine lv_icmp_ne (tgt := 71) hx hb dX4_seek_58 (by decide) (fun c6 => ?_) (fun c6 => ?_)
        · have hf := br_neg c6 hf
          exact w71 x3 g_fewest g_size _ H locs ls hf hF hP hD hS (lv_sub hl [1, 2] rfl)
        · have hf := br_pos c6 hf
          refine lv_aload_n hx hb dX4_seek_61 rfl (lv_at hl 1 rfl) ?_
          refine lv_aload_n hx hb dX4_seek_62 rfl (lv_at hl 1 rfl) ?_
          refine lv_iload hx hb dX4_seek_63 (lv_at hl 0 rfl) ?_
          obtain ⟨u7, hu7, hf⟩ := bd_some hf
          refine caVI (rest := [.ref a_this]) (As := [.int u4]) (wr := []) (wo := [(a_this, .inr (4, [.int g_numbers, .int g_length, .int g_fewest, .int g_size]))]) ⟨hx, hb, hml, hown, hts⟩ hN hP hD hS hA (cX4_sumsWithItself_ct l D cI cL cC cZ a_this g_numbers g_length g_fewest g_size u4 u7 hu7) z6 0 4 rfl rfl [0] [] [0] rfl (by decide) rfl (by decide) (by decide) rfl (by decide) rfl hl.1 rfl (Nat.le_of_ble_eq_true rfl) dX4_seek_65 ⟨Nat.zero_le _, Nat.zero_le _⟩ (fun H locs hP hD hS => ?_)
          obtain ⟨u8, hu8, hf⟩ := bd_some hf
          refine caVV (rest := []) (As := [.int u7]) (wr := []) (wo := [(a_this, .inr (4, [.int g_numbers, .int g_length, .int u8.1, .int u8.2]))]) ⟨hx, hb, hml, hown, hts⟩ hN hP hD hS hA (cX4_countIn_ct l D cI cL cC cZ a_this g_numbers g_length g_fewest g_size u7 u8.1 u8.2 hu8) z7 0 4 rfl rfl [0] [] [0] rfl (by decide) rfl (by decide) (by decide) rfl (by decide) rfl hl.1 rfl (Nat.le_of_ble_eq_true rfl) dX4_seek_68 ⟨Nat.zero_le _, Nat.zero_le _⟩ (fun H locs hP hD hS => ?_)
          exact w71 x3 u8.1 u8.2 _ H locs ls hf hF hP hD hS (lv_sub hl [1, 2] rfl)
    intro x3 g_fewest g_size t H locs ls hf hF hP hD hS hl
    exact ((congrFun eF34 _).mp (key ((x3, g_fewest, g_size)) t hf hF)) H locs ls hP hD hS hl
  have w17 : ∀ (x1 : Int32) (x2 : Int32) (g_numbers : Int32) (g_length : Int32) (g_fewest : Int32) (g_size : Int32) (H : Heap) (locs : List Loc) (ls : Array Slot), bX4_seek_17 x1 x2 g_numbers g_length g_fewest g_size = some ((v_numbers, v_length, v_fewest, v_size)) → va_P D vwCl [(a_this, .inr (4, [.int g_numbers, .int g_length, .int g_fewest, .int g_size]))] H → va_D A [(a_this, .inr (4, [.int g_numbers, .int g_length, .int g_fewest, .int g_size]))] → va_S A s.heap H locs → lv_has ls 5 [(0, .ref a_this), (1, .int x1), (2, .int x2)] → W p l e rmX4_seek s m ([.ref a_this, .int q1, .int q2] : List Value).toArray below meth c H locs 0 0 (MQ below (cQv D A [(a_this, .inr (4, [.int v_numbers, .int v_length, .int v_fewest, .int v_size]))]) ([.ref a_this, .int q1, .int q2] : List Value).toArray s 0 0 A) (F0 m 17 ls []) := by
    intro x1 x2 g_numbers g_length g_fewest g_size H locs ls hf hP hD hS hl
    unfold bX4_seek_17 at hf
    refine lv_aload_n hx hb dX4_seek_17 rfl (lv_at hl 0 rfl) ?_
    refine lv_iload_n hx hb dX4_seek_18 rfl (lv_at hl 1 rfl) ?_
    refine va_put (D := D) (ci := 4) (v := .int x1) (ty := .int) (C := RX4) (T := TX4) (N := 4) hx hb hts z4 tyX4 tyX4_ok nmX4 hown hN.1 hP hD hS 0 rfl rfl 0 (by decide) z5 (fun _ h9 => h9) rfl (by decide +kernel) rfl rfl (Nat.le_of_ble_eq_true rfl) dX4_seek_19 (fun H locs hP hD hS => ?_)
    have hP : va_P D vwCl [(a_this, .inr (4, [.int x1, .int g_length, .int g_fewest, .int g_size]))] H := hP
    have hD : va_D A [(a_this, .inr (4, [.int x1, .int g_length, .int g_fewest, .int g_size]))] := hD
    refine lv_aload_n hx hb dX4_seek_22 rfl (lv_at hl 0 rfl) ?_
    refine lv_iload_n hx hb dX4_seek_23 rfl (lv_at hl 2 rfl) ?_
    refine va_put (D := D) (ci := 4) (v := .int x2) (ty := .int) (C := RX4) (T := TX4) (N := 4) hx hb hts z4 tyX4 tyX4_ok nmX4 hown hN.1 hP hD hS 0 rfl rfl 1 (by decide) z8 (fun _ h9 => h9) rfl (by decide +kernel) rfl rfl (Nat.le_of_ble_eq_true rfl) dX4_seek_24 (fun H locs hP hD hS => ?_)
    have hP : va_P D vwCl [(a_this, .inr (4, [.int x1, .int x2, .int g_fewest, .int g_size]))] H := hP
    have hD : va_D A [(a_this, .inr (4, [.int x1, .int x2, .int g_fewest, .int g_size]))] := hD
    refine lv_aload_n hx hb dX4_seek_27 rfl (lv_at hl 0 rfl) ?_
    refine lv_iconst (v := 0) hx hb dX4_seek_28 (by decide) ?_
    refine va_put (D := D) (ci := 4) (v := .int (0 : Int32)) (ty := .int) (C := RX4) (T := TX4) (N := 4) hx hb hts z4 tyX4 tyX4_ok nmX4 hown hN.1 hP hD hS 0 rfl rfl 3 (by decide) z9 (fun _ h9 => h9) rfl (by decide +kernel) rfl rfl (Nat.le_of_ble_eq_true rfl) dX4_seek_29 (fun H locs hP hD hS => ?_)
    have hP : va_P D vwCl [(a_this, .inr (4, [.int x1, .int x2, .int g_fewest, .int (0 : Int32)]))] H := hP
    have hD : va_D A [(a_this, .inr (4, [.int x1, .int x2, .int g_fewest, .int (0 : Int32)]))] := hD
    refine lv_iconst (v := 0) hx hb dX4_seek_32 (by decide) ?_
    refine lv_istore_n (lv' := [(3, .int (0 : Int32)), (0, .ref a_this), (1, .int x1), (2, .int x2)]) hx hb dX4_seek_33 rfl hl (by decide) rfl (fun ls hl => ?_)
    exact w34 x1 x2 (0 : Int32) g_fewest (0 : Int32) (v_numbers, v_length, v_fewest, v_size) H locs ls hf rfl hP hD hS (lv_sub hl [1, 0] rfl)
  unfold fX4_seek at hf
  obtain ⟨H, eH⟩ : ∃ z, z = s.heap := ⟨_, rfl⟩
  obtain ⟨locs, eL⟩ : ∃ z : List Loc, z = [] := ⟨_, rfl⟩
  have hP : va_P D vwCl [(a_this, .inr (4, [.int g_numbers, .int g_length, .int g_fewest, .int g_size]))] H := by rw [eH]; exact hP
  have hS : va_S A s.heap H locs := by rw [eH, eL]; exact hS
  suffices hG : W p l e rmX4_seek s m ([.ref a_this, .int q1, .int q2] : List Value).toArray below meth c H locs 0 0 (MQ below (cQv D A [(a_this, .inr (4, [.int v_numbers, .int v_length, .int v_fewest, .int v_size]))]) ([.ref a_this, .int q1, .int q2] : List Value).toArray s 0 0 A) (F0 m 0 ls []) by rw [eH, eL] at hG; exact hG
  refine lv_iload_n hx hb dX4_seek_0 rfl (lv_at hl 1 rfl) ?_
  refine lv_aload_n hx hb dX4_seek_1 rfl (lv_at hl 0 rfl) ?_
  refine va_get (D := D) (ci := 4) (v := .int g_numbers) (C := RX4) (T := TX4) (N := 4) hx hb hts z4 hown hN.1 hP 0 rfl rfl 0 (by decide) z5 (fun _ h9 => h9) rfl dX4_seek_2 ?_
  refine lv_icmp_ne (tgt := 17) hx hb dX4_seek_5 (by decide) (fun c9 => ?_) (fun c9 => ?_)
  · have hf := br_neg c9 hf
    exact w17 q1 q2 g_numbers g_length g_fewest g_size H locs ls hf hP hD hS (lv_sub hl [0, 1, 2] rfl)
  · have hf := br_pos c9 hf
    refine lv_iload_n hx hb dX4_seek_8 rfl (lv_at hl 2 rfl) ?_
    refine lv_aload_n hx hb dX4_seek_9 rfl (lv_at hl 0 rfl) ?_
    refine va_get (D := D) (ci := 4) (v := .int g_length) (C := RX4) (T := TX4) (N := 4) hx hb hts z4 hown hN.1 hP 0 rfl rfl 1 (by decide) z8 (fun _ h9 => h9) rfl dX4_seek_10 ?_
    refine lv_icmp_ne (tgt := 17) hx hb dX4_seek_13 (by decide) (fun c10 => ?_) (fun c10 => ?_)
    · have hf := br_neg c10 hf
      exact w17 q1 q2 g_numbers g_length g_fewest g_size H locs ls hf hP hD hS (lv_sub hl [0, 1, 2] rfl)
    · have hf := br_pos c10 hf
      have hE : (g_numbers, g_length, g_fewest, g_size) = (v_numbers, v_length, v_fewest, v_size) := Option.some.inj hf
      simp only [Prod.mk.injEq] at hE
      obtain ⟨rfl, rfl, rfl, rfl⟩ := hE
      exact rtV hx hb hr hlk hP hD hS dX4_seek_16
abbrev rmX4_setAt : Room := { frames := 2, cells := 0, slots := 0, locals := 43 }
noncomputable def bX4_setAt_70 (x1 : Int32) (x2 : Int32) (x3 : Int32) (g_numbers : Int32) (g_length : Int32) (g_fewest : Int32) (g_size : Int32) : Option ((Int32 × Int32) ⊕ (Int32)) := lt_ (x3 + (1 : Int32)) (fun y1 => some (Sum.inl ((x2, y1))))
noncomputable def bX4_setAt_19 (x1 : Int32) (g_numbers : Int32) (g_length : Int32) (g_fewest : Int32) (g_size : Int32) (x2 : Int32) (x3 : Int32) : Option ((Int32 × Int32) ⊕ (Int32)) := bd (fX4_betweens g_length) (fun u2 => br (u2 ≤ x3) (some (Sum.inr ((-4 : Int32)))) (bd (fX4_setWith x3 g_length) (fun u4 => bd (fJ6_bitCount_0f7a4 u4) (fun u5 => br (u5 = g_numbers) (bd (fX4_sumsWithItself u4 g_length) (fun u7 => br (u7 = g_fewest) (br (x2 = x1) (some (Sum.inr (u4))) (lt_ (x2 + (1 : Int32)) (fun y10 => bX4_setAt_70 x1 y10 x3 g_numbers g_length g_fewest g_size))) (bX4_setAt_70 x1 x2 x3 g_numbers g_length g_fewest g_size))) (bX4_setAt_70 x1 x2 x3 g_numbers g_length g_fewest g_size)))))
noncomputable def sX4_setAt_19 (x1 : Int32) (g_numbers : Int32) (g_length : Int32) (g_fewest : Int32) (g_size : Int32) : (Int32 × Int32) → Option ((Int32 × Int32) ⊕ (Int32)) := fun q => bX4_setAt_19 x1 g_numbers g_length g_fewest g_size q.1 q.2
noncomputable def fX4_setAt (q1 : Int32) (g_numbers : Int32) (g_length : Int32) (g_fewest : Int32) (g_size : Int32) : Option (Int32) := br (q1 < 0) (some ((-4 : Int32))) (br (q1 < g_size) (run (sX4_setAt_19 q1 g_numbers g_length g_fewest g_size) (((0 : Int32), (0 : Int32)))) (some ((-4 : Int32))))
set_option maxHeartbeats 4000000 in
set_option maxRecDepth 100000 in
theorem cX4_setAt_ct (l : Launch) (D : va_G) (cI cL cC cZ : ClassId) (a_this : Nat) (g_numbers : Int32) (g_length : Int32) (g_fewest : Int32) (g_size : Int32) (q1 : Int32) (r0 : Int32) (hf : fX4_setAt q1 g_numbers g_length g_fewest g_size = some r0) : CtI l yX4_setAt wsX4_setAt rmX4_setAt D (tyz cI cL cC cZ) [.ref a_this, .int q1] [(a_this, .inr (4, [.int g_numbers, .int g_length, .int g_fewest, .int g_size]))] [(a_this, .inr (4, [.int g_numbers, .int g_length, .int g_fewest, .int g_size]))] r0 := by
  refine CtI.make (cc := cX4_setAt) (maxL := 5) (ty := .int) (by decide) rfl (Nat.le_of_ble_eq_true rfl) ?_
  intro p e s m below meth c A ls C0 hN hA hP hD hl
  obtain ⟨hx, hb, hr, hml, hown, hts, hlk⟩ := id C0
  have hown : s.vm.findClass RX4 = some m.cls := hown
  have hS : va_S A s.heap s.heap [] := va_S.rf
  have hP : va_P D vwCl [(a_this, .inr (4, [.int g_numbers, .int g_length, .int g_fewest, .int g_size]))] s.heap := hP
  have hD : va_D A [(a_this, .inr (4, [.int g_numbers, .int g_length, .int g_fewest, .int g_size]))] := hD
  have hl : lv_has ls 5 [(0, .ref a_this), (1, .int q1)] := hl
  have z1 := cwV (R := rmX4_setAt) (rm := rmX4_betweens) (mc := 0) (ms := 0) 0 hts gX4_setAt_X4_betweens rfl rfl rfl (by decide +kernel) ⟨Nat.le_of_ble_eq_true rfl, Nat.le_of_ble_eq_true rfl⟩
  have z2 := cwV (R := rmX4_setAt) (rm := rmX4_setWith) (mc := 0) (ms := 0) 1 hts gX4_setAt_X4_setWith rfl rfl rfl (by decide +kernel) ⟨Nat.le_of_ble_eq_true rfl, Nat.le_of_ble_eq_true rfl⟩
  have z3 := va_cwS (R := rmX4_setAt) (rm := rmJ6_bitCount_0f7a4) (mc := 0) (ms := 0) 1 hts gX4_setAt_J6_bitCount_0f7a4 rfl rfl rfl (by decide +kernel) ⟨Nat.le_of_ble_eq_true rfl, Nat.le_of_ble_eq_true rfl⟩
  have z4 : ∀ w ∈ u_ws RX4 TX4 4, w ∈ wsX4_setAt := by decide +kernel
  have z5 := hts (.fieldLink RX4 18 "LittleSums$SmallestSearch" "numbers" "I") (by decide +kernel)
  have z6 := cwV (R := rmX4_setAt) (rm := rmX4_sumsWithItself) (mc := 0) (ms := 0) 1 hts gX4_setAt_X4_sumsWithItself rfl rfl rfl (by decide +kernel) ⟨Nat.le_of_ble_eq_true rfl, Nat.le_of_ble_eq_true rfl⟩
  have z7 := hts (.fieldLink RX4 11 "LittleSums$SmallestSearch" "fewest" "I") (by decide +kernel)
  have z8 := hts (.fieldLink RX4 15 "LittleSums$SmallestSearch" "size" "I") (by decide +kernel)
  have w19 : ∀ (x1 : Int32) (g_numbers : Int32) (g_length : Int32) (g_fewest : Int32) (g_size : Int32) (x2 : Int32) (x3 : Int32) (t : Int32) (H : Heap) (locs : List Loc) (ls : Array Slot), run (sX4_setAt_19 x1 g_numbers g_length g_fewest g_size) ((x2, x3)) = some t → (fun z => z = r0) t → va_P D vwCl [(a_this, .inr (4, [.int g_numbers, .int g_length, .int g_fewest, .int g_size]))] H → va_D A [(a_this, .inr (4, [.int g_numbers, .int g_length, .int g_fewest, .int g_size]))] → va_S A s.heap H locs → lv_has ls 5 [(0, .ref a_this), (1, .int x1), (2, .int x2), (3, .int x3)] → W p l e rmX4_setAt s m ([.ref a_this, .int q1] : List Value).toArray below meth c H locs 0 0 (MQ below (cQi D r0 A [(a_this, .inr (4, [.int g_numbers, .int g_length, .int g_fewest, .int g_size]))]) ([.ref a_this, .int q1] : List Value).toArray s 0 0 A) (F0 m 19 ls []) := by
    intro x1 g_numbers g_length g_fewest g_size
    obtain ⟨F19, eF19⟩ : ∃ F : (Int32 × Int32) → Prop, F = fun q => ∀ (H : Heap) (locs : List Loc) (ls : Array Slot), va_P D vwCl [(a_this, .inr (4, [.int g_numbers, .int g_length, .int g_fewest, .int g_size]))] H → va_D A [(a_this, .inr (4, [.int g_numbers, .int g_length, .int g_fewest, .int g_size]))] → va_S A s.heap H locs → lv_has ls 5 [(0, .ref a_this), (1, .int x1), (2, .int q.1), (3, .int q.2)] → W p l e rmX4_setAt s m ([.ref a_this, .int q1] : List Value).toArray below meth c H locs 0 0 (MQ below (cQi D r0 A [(a_this, .inr (4, [.int g_numbers, .int g_length, .int g_fewest, .int g_size]))]) ([.ref a_this, .int q1] : List Value).toArray s 0 0 A) (F0 m 19 ls []) := ⟨_, rfl⟩
    have key : ∀ (q : Int32 × Int32) (t : Int32), run (sX4_setAt_19 x1 g_numbers g_length g_fewest g_size) q = some t → (fun z => z = r0) t → F19 q := by
      refine loop_rule (sX4_setAt_19 x1 g_numbers g_length g_fewest g_size) F19 (fun z => z = r0) ?_
      intro q t hf hF
      have hF : (Sum.elim F19 (fun z => z = r0)) t := hF
      have w70 : ∀ (x2 : Int32) (x3 : Int32) (t : (Int32 × Int32) ⊕ (Int32)) (H : Heap) (locs : List Loc) (ls : Array Slot), bX4_setAt_70 x1 x2 x3 g_numbers g_length g_fewest g_size = some t → (Sum.elim F19 (fun z => z = r0)) t → va_P D vwCl [(a_this, .inr (4, [.int g_numbers, .int g_length, .int g_fewest, .int g_size]))] H → va_D A [(a_this, .inr (4, [.int g_numbers, .int g_length, .int g_fewest, .int g_size]))] → va_S A s.heap H locs → lv_has ls 5 [(0, .ref a_this), (1, .int x1), (2, .int x2), (3, .int x3)] → W p l e rmX4_setAt s m ([.ref a_this, .int q1] : List Value).toArray below meth c H locs 0 0 (MQ below (cQi D r0 A [(a_this, .inr (4, [.int g_numbers, .int g_length, .int g_fewest, .int g_size]))]) ([.ref a_this, .int q1] : List Value).toArray s 0 0 A) (F0 m 70 ls []) := by
        intro x2 x3 t H locs ls hf hF hP hD hS hl
        unfold bX4_setAt_70 at hf
        obtain ⟨y1, ey1⟩ : ∃ z : Int32, z = x3 + (1 : Int32) := ⟨_, rfl⟩
        have hf := lt_some hf y1 ey1
        refine lv_iinc (v := y1) (lv' := [(3, .int y1), (0, .ref a_this), (1, .int x1), (2, .int x2)]) hx hb dX4_setAt_70 hl (k := 3) rfl (by rw [ey1]; rfl) (by decide) rfl (fun ls hl => ?_)
        refine lv_goto (tgt := 19) hx hb dX4_setAt_73 (by decide) ?_
        cases hf
        exact ((congrFun eF19 _).mp hF) H locs ls hP hD hS (lv_sub hl [1, 2, 3, 0] rfl)
      rw [eF19]
      obtain ⟨x2, x3⟩ := q
      intro H locs ls hP hD hS hl
      have hP : va_P D vwCl [(a_this, .inr (4, [.int g_numbers, .int g_length, .int g_fewest, .int g_size]))] H := hP
      have hD : va_D A [(a_this, .inr (4, [.int g_numbers, .int g_length, .int g_fewest, .int g_size]))] := hD
      have hl : lv_has ls 5 [(0, .ref a_this), (1, .int x1), (2, .int x2), (3, .int x3)] := hl
      have hf : bX4_setAt_19 x1 g_numbers g_length g_fewest g_size x2 x3 = some t := hf
      unfold bX4_setAt_19 at hf
      refine lv_iload_n hx hb dX4_setAt_19 rfl (lv_at hl 3 rfl) ?_
      refine lv_aload_n hx hb dX4_setAt_20 rfl (lv_at hl 0 rfl) ?_
      obtain ⟨u2, hu2, hf⟩ := bd_some hf
      refine caVI (rest := [.int x3]) (As := []) (wr := []) (wo := [(a_this, .inr (4, [.int g_numbers, .int g_length, .int g_fewest, .int g_size]))]) ⟨hx, hb, hml, hown, hts⟩ hN hP hD hS hA (cX4_betweens_ct l D cI cL cC cZ a_this g_numbers g_length g_fewest g_size u2 hu2) z1 0 4 rfl rfl [0] [] [0] rfl (by decide) rfl (by decide) (by decide) rfl (by decide) rfl hl.1 rfl (Nat.le_of_ble_eq_true rfl) dX4_setAt_21 ⟨Nat.zero_le _, Nat.zero_le _⟩ (fun H locs hP hD hS => ?_)
      refine lv_icmp_ge (tgt := 76) hx hb dX4_setAt_24 (by decide) (fun c3 => ?_) (fun c3 => ?_)
      · have hf := br_pos c3 hf
        refine lv_bipush (v := -4) hx hb dX4_setAt_76 (by decide) ?_
        cases hf
        have hE : (-4 : Int32) = r0 := hF
        subst hE
        exact rtI hx hb hr hlk hP hD hS dX4_setAt_78
      · have hf := br_neg c3 hf
        refine lv_aload_n hx hb dX4_setAt_27 rfl (lv_at hl 0 rfl) ?_
        refine lv_iload_n hx hb dX4_setAt_28 rfl (lv_at hl 3 rfl) ?_
        obtain ⟨u4, hu4, hf⟩ := bd_some hf
        refine caVI (rest := []) (As := [.int x3]) (wr := []) (wo := [(a_this, .inr (4, [.int g_numbers, .int g_length, .int g_fewest, .int g_size]))]) ⟨hx, hb, hml, hown, hts⟩ hN hP hD hS hA (cX4_setWith_ct l D cI cL cC cZ a_this g_numbers g_length g_fewest g_size x3 u4 hu4) z2 0 4 rfl rfl [0] [] [0] rfl (by decide) rfl (by decide) (by decide) rfl (by decide) rfl hl.1 rfl (Nat.le_of_ble_eq_true rfl) dX4_setAt_29 ⟨Nat.zero_le _, Nat.zero_le _⟩ (fun H locs hP hD hS => ?_)
        refine lv_istore (lv' := [(4, .int u4), (0, .ref a_this), (1, .int x1), (2, .int x2), (3, .int x3)]) hx hb dX4_setAt_32 hl (by decide) rfl (fun ls hl => ?_)
        refine lv_iload hx hb dX4_setAt_34 (lv_at hl 0 rfl) ?_
        obtain ⟨u5, hu5, hf⟩ := bd_some hf
        refine caSI (rest := []) (As := [.int u4]) (wr := [(a_this, .inr (4, [.int g_numbers, .int g_length, .int g_fewest, .int g_size]))]) (wo := [(a_this, .inr (4, [.int g_numbers, .int g_length, .int g_fewest, .int g_size]))]) ⟨hx, hb, hml, hown, hts⟩ hN hP hD hS hA (cJ6_bitCount_0f7a4_ct l D cI cL cC cZ u4 u5 hu5) z3 [] [0] [0] rfl (by decide) rfl (by decide) (by decide) rfl (by decide) rfl hl.1 rfl (Nat.le_of_ble_eq_true rfl) dX4_setAt_36 ⟨Nat.zero_le _, Nat.zero_le _⟩ (fun H locs hP hD hS => ?_)
        refine lv_aload_n hx hb dX4_setAt_39 rfl (lv_at hl 1 rfl) ?_
        refine va_get (D := D) (ci := 4) (v := .int g_numbers) (C := RX4) (T := TX4) (N := 4) hx hb hts z4 hown hN.1 hP 0 rfl rfl 0 (by decide) z5 (fun _ h9 => h9) rfl dX4_setAt_40 ?_
        refine lv_icmp_ne (tgt := 70) hx hb dX4_setAt_43 (by decide) (fun c6 => ?_) (fun c6 => ?_)
        · have hf := br_neg c6 hf
          exact w70 x2 x3 _ H locs ls hf hF hP hD hS (lv_sub hl [1, 2, 3, 4] rfl)
        · have hf := br_pos c6 hf
          refine lv_aload_n hx hb dX4_setAt_46 rfl (lv_at hl 1 rfl) ?_
          refine lv_iload hx hb dX4_setAt_47 (lv_at hl 0 rfl) ?_
          obtain ⟨u7, hu7, hf⟩ := bd_some hf
          refine caVI (rest := []) (As := [.int u4]) (wr := []) (wo := [(a_this, .inr (4, [.int g_numbers, .int g_length, .int g_fewest, .int g_size]))]) ⟨hx, hb, hml, hown, hts⟩ hN hP hD hS hA (cX4_sumsWithItself_ct l D cI cL cC cZ a_this g_numbers g_length g_fewest g_size u4 u7 hu7) z6 0 4 rfl rfl [0] [] [0] rfl (by decide) rfl (by decide) (by decide) rfl (by decide) rfl hl.1 rfl (Nat.le_of_ble_eq_true rfl) dX4_setAt_49 ⟨Nat.zero_le _, Nat.zero_le _⟩ (fun H locs hP hD hS => ?_)
          refine lv_aload_n hx hb dX4_setAt_52 rfl (lv_at hl 1 rfl) ?_
          refine va_get (D := D) (ci := 4) (v := .int g_fewest) (C := RX4) (T := TX4) (N := 4) hx hb hts z4 hown hN.1 hP 0 rfl rfl 2 (by decide) z7 (fun _ h9 => h9) rfl dX4_setAt_53 ?_
          refine lv_icmp_ne (tgt := 70) hx hb dX4_setAt_56 (by decide) (fun c8 => ?_) (fun c8 => ?_)
          · have hf := br_neg c8 hf
            exact w70 x2 x3 _ H locs ls hf hF hP hD hS (lv_sub hl [1, 2, 3, 4] rfl)
          · have hf := br_pos c8 hf
            refine lv_iload_n hx hb dX4_setAt_59 rfl (lv_at hl 3 rfl) ?_
            refine lv_iload_n hx hb dX4_setAt_60 rfl (lv_at hl 2 rfl) ?_
            refine lv_icmp_ne (tgt := 67) hx hb dX4_setAt_61 (by decide) (fun c9 => ?_) (fun c9 => ?_)
            · have hf := br_neg c9 hf
              obtain ⟨y10, ey10⟩ : ∃ z : Int32, z = x2 + (1 : Int32) := ⟨_, rfl⟩
              have hf := lt_some hf y10 ey10
              refine lv_iinc (v := y10) (lv' := [(2, .int y10), (4, .int u4), (0, .ref a_this), (1, .int x1), (3, .int x3)]) hx hb dX4_setAt_67 hl (k := 3) rfl (by rw [ey10]; rfl) (by decide) rfl (fun ls hl => ?_)
              exact w70 y10 x3 _ H locs ls hf hF hP hD hS (lv_sub hl [2, 3, 0, 4] rfl)
            · have hf := br_pos c9 hf
              refine lv_iload hx hb dX4_setAt_64 (lv_at hl 0 rfl) ?_
              cases hf
              have hE : u4 = r0 := hF
              subst hE
              exact rtI hx hb hr hlk hP hD hS dX4_setAt_66
    intro x2 x3 t H locs ls hf hF hP hD hS hl
    exact ((congrFun eF19 _).mp (key ((x2, x3)) t hf hF)) H locs ls hP hD hS hl
  unfold fX4_setAt at hf
  obtain ⟨H, eH⟩ : ∃ z, z = s.heap := ⟨_, rfl⟩
  obtain ⟨locs, eL⟩ : ∃ z : List Loc, z = [] := ⟨_, rfl⟩
  have hP : va_P D vwCl [(a_this, .inr (4, [.int g_numbers, .int g_length, .int g_fewest, .int g_size]))] H := by rw [eH]; exact hP
  have hS : va_S A s.heap H locs := by rw [eH, eL]; exact hS
  suffices hG : W p l e rmX4_setAt s m ([.ref a_this, .int q1] : List Value).toArray below meth c H locs 0 0 (MQ below (cQi D r0 A [(a_this, .inr (4, [.int g_numbers, .int g_length, .int g_fewest, .int g_size]))]) ([.ref a_this, .int q1] : List Value).toArray s 0 0 A) (F0 m 0 ls []) by rw [eH, eL] at hG; exact hG
  refine lv_iload_n hx hb dX4_setAt_0 rfl (lv_at hl 1 rfl) ?_
  refine lv_if_lt (tgt := 12) hx hb dX4_setAt_1 (by decide) (fun c11 => ?_) (fun c11 => ?_)
  · have hf := br_pos c11 hf
    refine lv_bipush (v := -4) hx hb dX4_setAt_12 (by decide) ?_
    have hE : (-4 : Int32) = r0 := Option.some.inj hf
    subst hE
    exact rtI hx hb hr hlk hP hD hS dX4_setAt_14
  · have hf := br_neg c11 hf
    refine lv_iload_n hx hb dX4_setAt_4 rfl (lv_at hl 1 rfl) ?_
    refine lv_aload_n hx hb dX4_setAt_5 rfl (lv_at hl 0 rfl) ?_
    refine va_get (D := D) (ci := 4) (v := .int g_size) (C := RX4) (T := TX4) (N := 4) hx hb hts z4 hown hN.1 hP 0 rfl rfl 3 (by decide) z8 (fun _ h9 => h9) rfl dX4_setAt_6 ?_
    refine lv_icmp_lt (tgt := 15) hx hb dX4_setAt_9 (by decide) (fun c12 => ?_) (fun c12 => ?_)
    · have hf := br_pos c12 hf
      refine lv_iconst (v := 0) hx hb dX4_setAt_15 (by decide) ?_
      refine lv_istore_n (lv' := [(2, .int (0 : Int32)), (0, .ref a_this), (1, .int q1)]) hx hb dX4_setAt_16 rfl hl (by decide) rfl (fun ls hl => ?_)
      refine lv_iconst (v := 0) hx hb dX4_setAt_17 (by decide) ?_
      refine lv_istore_n (lv' := [(3, .int (0 : Int32)), (2, .int (0 : Int32)), (0, .ref a_this), (1, .int q1)]) hx hb dX4_setAt_18 rfl hl (by decide) rfl (fun ls hl => ?_)
      exact w19 q1 g_numbers g_length g_fewest g_size (0 : Int32) (0 : Int32) r0 H locs ls hf rfl hP hD hS (lv_sub hl [2, 3, 1, 0] rfl)
    · have hf := br_neg c12 hf
      refine lv_bipush (v := -4) hx hb dX4_setAt_12 (by decide) ?_
      have hE : (-4 : Int32) = r0 := Option.some.inj hf
      subst hE
      exact rtI hx hb hr hlk hP hD hS dX4_setAt_14
abbrev rmX6_carried : Room := { frames := 0, cells := 0, slots := 0, locals := 0 }
noncomputable def fX6_carried (q0 : Int64) (q2 : Int32) : Option (Int64) := br (q2 = 0) (some ((0 : Int64))) (some ((q0.toUInt64 >>> (((64 : Int32) - q2).toInt64.toUInt64 &&& Int64.toUInt64 63)).toInt64))
set_option maxHeartbeats 4000000 in
set_option maxRecDepth 100000 in
theorem cX6_carried_ct (l : Launch) (D : va_G) (cI cL cC cZ : ClassId) (q0 : Int64) (q2 : Int32) (r0 : Int64) (hf : fX6_carried q0 q2 = some r0) : CtL l yX6_carried wsX6_carried rmX6_carried D (tyz cI cL cC cZ) [.long q0, .int q2] [] [] r0 := by
  refine CtL.make (cc := cX6_carried) (maxL := 3) (ty := .long) (by decide) rfl (Nat.le_of_ble_eq_true rfl) ?_
  intro p e s m below meth c A ls C0 hN hA hP hD hl
  obtain ⟨hx, hb, hr, hml, hown, hts, hlk⟩ := id C0
  have hown : s.vm.findClass RX6 = some m.cls := hown
  have hS : va_S A s.heap s.heap [] := va_S.rf
  have hP : va_P D vwCl [] s.heap := hP
  have hD : va_D A [] := hD
  have hl : lv_has ls 3 [(0, .long q0), (2, .int q2)] := hl
  unfold fX6_carried at hf
  obtain ⟨H, eH⟩ : ∃ z, z = s.heap := ⟨_, rfl⟩
  obtain ⟨locs, eL⟩ : ∃ z : List Loc, z = [] := ⟨_, rfl⟩
  have hP : va_P D vwCl [] H := by rw [eH]; exact hP
  have hS : va_S A s.heap H locs := by rw [eH, eL]; exact hS
  suffices hG : W p l e rmX6_carried s m ([.long q0, .int q2] : List Value).toArray below meth c H locs 0 0 (MQ below (cQl D r0 A []) ([.long q0, .int q2] : List Value).toArray s 0 0 A) (F0 m 0 ls []) by rw [eH, eL] at hG; exact hG
  refine lv_iload_n hx hb dX6_carried_0 rfl (lv_at hl 1 rfl) ?_
  refine lv_if_ne (tgt := 8) hx hb dX6_carried_1 (by decide) (fun c1 => ?_) (fun c1 => ?_)
  · have hf := br_neg c1 hf
    refine lv_lload_n hx hb dX6_carried_8 rfl (lv_at hl 0 rfl) ?_
    refine lv_bipush (v := 64) hx hb dX6_carried_9 (by decide) ?_
    refine lv_iload_n hx hb dX6_carried_11 rfl (lv_at hl 1 rfl) ?_
    refine lv_isub hx hb dX6_carried_12 ?_
    refine lv_lushr hx hb dX6_carried_13 rfl ?_
    have hE : (q0.toUInt64 >>> (((64 : Int32) - q2).toInt64.toUInt64 &&& Int64.toUInt64 63)).toInt64 = r0 := Option.some.inj hf
    subst hE
    exact rtL hx hb hr hlk hP hD hS dX6_carried_14
  · have hf := br_pos c1 hf
    refine lv_lconst (v := 0) hx hb dX6_carried_4 (by decide) ?_
    refine lv_goto (tgt := 14) hx hb dX6_carried_5 (by decide) ?_
    have hE : (0 : Int64) = r0 := Option.some.inj hf
    subst hE
    exact rtL hx hb hr hlk hP hD hS dX6_carried_14
abbrev rmX5_addUp : Room := { frames := 1, cells := 0, slots := 0, locals := 22 }
noncomputable def bX5_addUp_56 (x1 : Int32) (x3 : Int64) (x5 : Int64) (g_added : Int64) (g_numbers : Nat → Int32) (x7 : Int32) (g_low : Nat → Int64) (g_high : Nat → Int64) : Option ((Int32 × (Nat → Int64) × (Nat → Int64)) ⊕ ((Nat → Int64) × (Nat → Int64))) := br (x1 < x7) (some (Sum.inr ((g_low, g_high)))) (gd (¬ x7 < 0 ∧ x7.toNatClampNeg < 13) (lt_ (vp_updL g_low x7.toNatClampNeg x3) (fun y3 => gd (¬ x7 < 0 ∧ x7.toNatClampNeg < 13) (lt_ (vp_updL g_high x7.toNatClampNeg x5) (fun y5 => lt_ (x7 + (1 : Int32)) (fun y6 => some (Sum.inl ((y6, y3, y5)))))))))
noncomputable def sX5_addUp_56 (x1 : Int32) (x3 : Int64) (x5 : Int64) (g_added : Int64) (g_numbers : Nat → Int32) : (Int32 × (Nat → Int64) × (Nat → Int64)) → Option ((Int32 × (Nat → Int64) × (Nat → Int64)) ⊕ ((Nat → Int64) × (Nat → Int64))) := fun q => bX5_addUp_56 x1 x3 x5 g_added g_numbers q.1 q.2.1 q.2.2
noncomputable def fX5_addUp (q1 : Int32) (g_added : Int64) (g_numbers : Nat → Int32) (g_low : Nat → Int64) (g_high : Nat → Int64) : Option ((Nat → Int64) × (Nat → Int64)) := br (q1 < 0) (some ((g_low, g_high))) (br (q1 < (12 : Int32)) (gd (¬ q1 < 0 ∧ q1.toNatClampNeg < 12) (lt_ (g_numbers q1.toNatClampNeg) (fun y10 => gd (¬ (q1 + (1 : Int32)) < 0 ∧ (q1 + (1 : Int32)).toNatClampNeg < 13) (lt_ ((g_low (q1 + (1 : Int32)).toNatClampNeg) ||| (g_added <<< (y10.toInt64 &&& 63))) (fun y12 => gd (¬ (q1 + (1 : Int32)) < 0 ∧ (q1 + (1 : Int32)).toNatClampNeg < 13) (bd (fX6_carried g_added y10) (fun u14 => lt_ ((g_high (q1 + (1 : Int32)).toNatClampNeg) ||| u14) (fun y15 => run (sX5_addUp_56 q1 y12 y15 g_added g_numbers) (((0 : Int32), g_low, g_high)))))))))) (some ((g_low, g_high))))
set_option maxHeartbeats 4000000 in
set_option maxRecDepth 100000 in
theorem cX5_addUp_ct (l : Launch) (D : va_G) (cI cL cC cZ : ClassId) (a_this a_numbers a_low a_high : Nat) (g_whole : Int64) (g_added : Int64) (g_bestPart : Int32) (g_bestSums : Int32) (g_bestSize : Int32) (g_numbers : Nat → Int32) (g_low : Nat → Int64) (g_high : Nat → Int64) (q1 : Int32) (v_low : Nat → Int64) (v_high : Nat → Int64) (hf : fX5_addUp q1 g_added g_numbers g_low g_high = some ((v_low, v_high))) : CtV l yX5_addUp wsX5_addUp rmX5_addUp D (tyz cI cL cC cZ) [.ref a_this, .int q1] [(a_this, .inr (5, [.ref a_numbers, .ref a_low, .ref a_high, .long g_whole, .long g_added, .int g_bestPart, .int g_bestSums, .int g_bestSize])), (a_numbers, .inl (cI, 12, .inl g_numbers)), (a_low, .inl (cL, 13, .inr (.inl g_low))), (a_high, .inl (cL, 13, .inr (.inl g_high)))] [(a_this, .inr (5, [.ref a_numbers, .ref a_low, .ref a_high, .long g_whole, .long g_added, .int g_bestPart, .int g_bestSums, .int g_bestSize])), (a_numbers, .inl (cI, 12, .inl g_numbers)), (a_low, .inl (cL, 13, .inr (.inl v_low))), (a_high, .inl (cL, 13, .inr (.inl v_high)))] := by
  refine CtV.make (cc := cX5_addUp) (maxL := 8) (by decide) rfl (Nat.le_of_ble_eq_true rfl) ?_
  intro p e s m below meth c A ls C0 hN hA hP hD hl
  obtain ⟨hx, hb, hr, hml, hown, hts, hlk⟩ := id C0
  have hown : s.vm.findClass RX5 = some m.cls := hown
  have hS : va_S A s.heap s.heap [] := va_S.rf
  have hP : va_P D vwCl [(a_this, .inr (5, [.ref a_numbers, .ref a_low, .ref a_high, .long g_whole, .long g_added, .int g_bestPart, .int g_bestSums, .int g_bestSize])), (a_numbers, .inl (cI, 12, .inl g_numbers)), (a_low, .inl (cL, 13, .inr (.inl g_low))), (a_high, .inl (cL, 13, .inr (.inl g_high)))] s.heap := hP
  have hD : va_D A [(a_this, .inr (5, [.ref a_numbers, .ref a_low, .ref a_high, .long g_whole, .long g_added, .int g_bestPart, .int g_bestSums, .int g_bestSize])), (a_numbers, .inl (cI, 12, .inl g_numbers)), (a_low, .inl (cL, 13, .inr (.inl g_low))), (a_high, .inl (cL, 13, .inr (.inl g_high)))] := hD
  have hl : lv_has ls 8 [(0, .ref a_this), (1, .int q1)] := hl
  have z1 : ∀ w ∈ u_ws RX5 TX5 8, w ∈ wsX5_addUp := by decide +kernel
  have z2 := hts (.fieldLink RX5 15 "LittleSums$SwellingSearch" "low" "[J") (by decide +kernel)
  have z3 := hts (.fieldLink RX5 19 "LittleSums$SwellingSearch" "high" "[J") (by decide +kernel)
  have z4 := hts (.fieldLink RX5 9 "LittleSums$SwellingSearch" "numbers" "[I") (by decide +kernel)
  have z5 := hts (.fieldLink RX5 26 "LittleSums$SwellingSearch" "added" "J") (by decide +kernel)
  have z6 := va_cwS (R := rmX5_addUp) (rm := rmX6_carried) (mc := 0) (ms := 0) 2 hts gX5_addUp_X6_carried rfl rfl rfl (by decide +kernel) ⟨Nat.le_of_ble_eq_true rfl, Nat.le_of_ble_eq_true rfl⟩
  have w56 : ∀ (x1 : Int32) (x3 : Int64) (x5 : Int64) (g_added : Int64) (g_numbers : Nat → Int32) (x7 : Int32) (g_low : Nat → Int64) (g_high : Nat → Int64) (t : (Nat → Int64) × (Nat → Int64)) (H : Heap) (locs : List Loc) (ls : Array Slot), run (sX5_addUp_56 x1 x3 x5 g_added g_numbers) ((x7, g_low, g_high)) = some t → (fun z => z = (v_low, v_high)) t → va_P D vwCl [(a_this, .inr (5, [.ref a_numbers, .ref a_low, .ref a_high, .long g_whole, .long g_added, .int g_bestPart, .int g_bestSums, .int g_bestSize])), (a_numbers, .inl (cI, 12, .inl g_numbers)), (a_low, .inl (cL, 13, .inr (.inl g_low))), (a_high, .inl (cL, 13, .inr (.inl g_high)))] H → va_D A [(a_this, .inr (5, [.ref a_numbers, .ref a_low, .ref a_high, .long g_whole, .long g_added, .int g_bestPart, .int g_bestSums, .int g_bestSize])), (a_numbers, .inl (cI, 12, .inl g_numbers)), (a_low, .inl (cL, 13, .inr (.inl g_low))), (a_high, .inl (cL, 13, .inr (.inl g_high)))] → va_S A s.heap H locs → lv_has ls 8 [(0, .ref a_this), (1, .int x1), (3, .long x3), (5, .long x5), (7, .int x7)] → W p l e rmX5_addUp s m ([.ref a_this, .int q1] : List Value).toArray below meth c H locs 0 0 (MQ below (cQv D A [(a_this, .inr (5, [.ref a_numbers, .ref a_low, .ref a_high, .long g_whole, .long g_added, .int g_bestPart, .int g_bestSums, .int g_bestSize])), (a_numbers, .inl (cI, 12, .inl g_numbers)), (a_low, .inl (cL, 13, .inr (.inl v_low))), (a_high, .inl (cL, 13, .inr (.inl v_high)))]) ([.ref a_this, .int q1] : List Value).toArray s 0 0 A) (F0 m 56 ls []) := by
    intro x1 x3 x5 g_added g_numbers
    obtain ⟨F56, eF56⟩ : ∃ F : (Int32 × (Nat → Int64) × (Nat → Int64)) → Prop, F = fun q => ∀ (H : Heap) (locs : List Loc) (ls : Array Slot), va_P D vwCl [(a_this, .inr (5, [.ref a_numbers, .ref a_low, .ref a_high, .long g_whole, .long g_added, .int g_bestPart, .int g_bestSums, .int g_bestSize])), (a_numbers, .inl (cI, 12, .inl g_numbers)), (a_low, .inl (cL, 13, .inr (.inl q.2.1))), (a_high, .inl (cL, 13, .inr (.inl q.2.2)))] H → va_D A [(a_this, .inr (5, [.ref a_numbers, .ref a_low, .ref a_high, .long g_whole, .long g_added, .int g_bestPart, .int g_bestSums, .int g_bestSize])), (a_numbers, .inl (cI, 12, .inl g_numbers)), (a_low, .inl (cL, 13, .inr (.inl q.2.1))), (a_high, .inl (cL, 13, .inr (.inl q.2.2)))] → va_S A s.heap H locs → lv_has ls 8 [(0, .ref a_this), (1, .int x1), (3, .long x3), (5, .long x5), (7, .int q.1)] → W p l e rmX5_addUp s m ([.ref a_this, .int q1] : List Value).toArray below meth c H locs 0 0 (MQ below (cQv D A [(a_this, .inr (5, [.ref a_numbers, .ref a_low, .ref a_high, .long g_whole, .long g_added, .int g_bestPart, .int g_bestSums, .int g_bestSize])), (a_numbers, .inl (cI, 12, .inl g_numbers)), (a_low, .inl (cL, 13, .inr (.inl v_low))), (a_high, .inl (cL, 13, .inr (.inl v_high)))]) ([.ref a_this, .int q1] : List Value).toArray s 0 0 A) (F0 m 56 ls []) := ⟨_, rfl⟩
    have key : ∀ (q : Int32 × (Nat → Int64) × (Nat → Int64)) (t : (Nat → Int64) × (Nat → Int64)), run (sX5_addUp_56 x1 x3 x5 g_added g_numbers) q = some t → (fun z => z = (v_low, v_high)) t → F56 q := by
      refine loop_rule (sX5_addUp_56 x1 x3 x5 g_added g_numbers) F56 (fun z => z = (v_low, v_high)) ?_
      intro q t hf hF
      have hF : (Sum.elim F56 (fun z => z = (v_low, v_high))) t := hF
      rw [eF56]
      obtain ⟨x7, g_low, g_high⟩ := q
      intro H locs ls hP hD hS hl
      have hP : va_P D vwCl [(a_this, .inr (5, [.ref a_numbers, .ref a_low, .ref a_high, .long g_whole, .long g_added, .int g_bestPart, .int g_bestSums, .int g_bestSize])), (a_numbers, .inl (cI, 12, .inl g_numbers)), (a_low, .inl (cL, 13, .inr (.inl g_low))), (a_high, .inl (cL, 13, .inr (.inl g_high)))] H := hP
      have hD : va_D A [(a_this, .inr (5, [.ref a_numbers, .ref a_low, .ref a_high, .long g_whole, .long g_added, .int g_bestPart, .int g_bestSums, .int g_bestSize])), (a_numbers, .inl (cI, 12, .inl g_numbers)), (a_low, .inl (cL, 13, .inr (.inl g_low))), (a_high, .inl (cL, 13, .inr (.inl g_high)))] := hD
      have hl : lv_has ls 8 [(0, .ref a_this), (1, .int x1), (3, .long x3), (5, .long x5), (7, .int x7)] := hl
      have hf : bX5_addUp_56 x1 x3 x5 g_added g_numbers x7 g_low g_high = some t := hf
      unfold bX5_addUp_56 at hf
      refine lv_iload hx hb dX5_addUp_56 (lv_at hl 4 rfl) ?_
      refine lv_iload_n hx hb dX5_addUp_58 rfl (lv_at hl 1 rfl) ?_
      refine lv_icmp_gt (tgt := 85) hx hb dX5_addUp_59 (by decide) (fun c1 => ?_) (fun c1 => ?_)
      · have hf := br_pos c1 hf
        cases hf
        have hE : (g_low, g_high) = (v_low, v_high) := hF
        simp only [Prod.mk.injEq] at hE
        obtain ⟨rfl, rfl⟩ := hE
        exact rtV hx hb hr hlk hP hD hS dX5_addUp_85
      · have hf := br_neg c1 hf
        refine lv_aload_n hx hb dX5_addUp_62 rfl (lv_at hl 0 rfl) ?_
        refine va_get (D := D) (ci := 5) (v := .ref a_low) (C := RX5) (T := TX5) (N := 8) hx hb hts z1 hown hN.1 hP 0 rfl rfl 1 (by decide) z2 (fun _ h9 => h9) rfl dX5_addUp_63 ?_
        refine lv_iload hx hb dX5_addUp_66 (lv_at hl 4 rfl) ?_
        refine lv_lload_n hx hb dX5_addUp_68 rfl (lv_at hl 2 rfl) ?_
        obtain ⟨c2, hf⟩ := gd_some hf
        refine va_last hx hb hN.1 hP hD hS 2 1 rfl rfl (ix_in c2) dX5_addUp_69 (fun H locs hP hD hS => ?_)
        obtain ⟨y3, ey3⟩ : ∃ z, z = vp_updL g_low x7.toNatClampNeg x3 := ⟨_, rfl⟩
        have hf := lt_some hf y3 ey3
        have hP : va_P D vwCl [(a_this, .inr (5, [.ref a_numbers, .ref a_low, .ref a_high, .long g_whole, .long g_added, .int g_bestPart, .int g_bestSums, .int g_bestSize])), (a_numbers, .inl (cI, 12, .inl g_numbers)), (a_low, .inl (cL, 13, .inr (.inl y3))), (a_high, .inl (cL, 13, .inr (.inl g_high)))] H := by rw [ey3]; exact hP
        have hD : va_D A [(a_this, .inr (5, [.ref a_numbers, .ref a_low, .ref a_high, .long g_whole, .long g_added, .int g_bestPart, .int g_bestSums, .int g_bestSize])), (a_numbers, .inl (cI, 12, .inl g_numbers)), (a_low, .inl (cL, 13, .inr (.inl y3))), (a_high, .inl (cL, 13, .inr (.inl g_high)))] := by rw [ey3]; exact hD
        refine lv_aload_n hx hb dX5_addUp_70 rfl (lv_at hl 0 rfl) ?_
        refine va_get (D := D) (ci := 5) (v := .ref a_high) (C := RX5) (T := TX5) (N := 8) hx hb hts z1 hown hN.1 hP 0 rfl rfl 2 (by decide) z3 (fun _ h9 => h9) rfl dX5_addUp_71 ?_
        refine lv_iload hx hb dX5_addUp_74 (lv_at hl 4 rfl) ?_
        refine lv_lload hx hb dX5_addUp_76 (lv_at hl 3 rfl) ?_
        obtain ⟨c4, hf⟩ := gd_some hf
        refine va_last hx hb hN.1 hP hD hS 3 1 rfl rfl (ix_in c4) dX5_addUp_78 (fun H locs hP hD hS => ?_)
        obtain ⟨y5, ey5⟩ : ∃ z, z = vp_updL g_high x7.toNatClampNeg x5 := ⟨_, rfl⟩
        have hf := lt_some hf y5 ey5
        have hP : va_P D vwCl [(a_this, .inr (5, [.ref a_numbers, .ref a_low, .ref a_high, .long g_whole, .long g_added, .int g_bestPart, .int g_bestSums, .int g_bestSize])), (a_numbers, .inl (cI, 12, .inl g_numbers)), (a_low, .inl (cL, 13, .inr (.inl y3))), (a_high, .inl (cL, 13, .inr (.inl y5)))] H := by rw [ey5]; exact hP
        have hD : va_D A [(a_this, .inr (5, [.ref a_numbers, .ref a_low, .ref a_high, .long g_whole, .long g_added, .int g_bestPart, .int g_bestSums, .int g_bestSize])), (a_numbers, .inl (cI, 12, .inl g_numbers)), (a_low, .inl (cL, 13, .inr (.inl y3))), (a_high, .inl (cL, 13, .inr (.inl y5)))] := by rw [ey5]; exact hD
        obtain ⟨y6, ey6⟩ : ∃ z : Int32, z = x7 + (1 : Int32) := ⟨_, rfl⟩
        have hf := lt_some hf y6 ey6
        refine lv_iinc (v := y6) (lv' := [(7, .int y6), (0, .ref a_this), (1, .int x1), (3, .long x3), (5, .long x5)]) hx hb dX5_addUp_79 hl (k := 4) rfl (by rw [ey6]; rfl) (by decide) rfl (fun ls hl => ?_)
        refine lv_goto (tgt := 56) hx hb dX5_addUp_82 (by decide) ?_
        cases hf
        exact ((congrFun eF56 _).mp hF) H locs ls hP hD hS (lv_sub hl [1, 2, 3, 4, 0] rfl)
    intro x7 g_low g_high t H locs ls hf hF hP hD hS hl
    exact ((congrFun eF56 _).mp (key ((x7, g_low, g_high)) t hf hF)) H locs ls hP hD hS hl
  unfold fX5_addUp at hf
  obtain ⟨H, eH⟩ : ∃ z, z = s.heap := ⟨_, rfl⟩
  obtain ⟨locs, eL⟩ : ∃ z : List Loc, z = [] := ⟨_, rfl⟩
  have hP : va_P D vwCl [(a_this, .inr (5, [.ref a_numbers, .ref a_low, .ref a_high, .long g_whole, .long g_added, .int g_bestPart, .int g_bestSums, .int g_bestSize])), (a_numbers, .inl (cI, 12, .inl g_numbers)), (a_low, .inl (cL, 13, .inr (.inl g_low))), (a_high, .inl (cL, 13, .inr (.inl g_high)))] H := by rw [eH]; exact hP
  have hS : va_S A s.heap H locs := by rw [eH, eL]; exact hS
  suffices hG : W p l e rmX5_addUp s m ([.ref a_this, .int q1] : List Value).toArray below meth c H locs 0 0 (MQ below (cQv D A [(a_this, .inr (5, [.ref a_numbers, .ref a_low, .ref a_high, .long g_whole, .long g_added, .int g_bestPart, .int g_bestSums, .int g_bestSize])), (a_numbers, .inl (cI, 12, .inl g_numbers)), (a_low, .inl (cL, 13, .inr (.inl v_low))), (a_high, .inl (cL, 13, .inr (.inl v_high)))]) ([.ref a_this, .int q1] : List Value).toArray s 0 0 A) (F0 m 0 ls []) by rw [eH, eL] at hG; exact hG
  refine lv_iload_n hx hb dX5_addUp_0 rfl (lv_at hl 1 rfl) ?_
  refine lv_if_lt (tgt := 10) hx hb dX5_addUp_1 (by decide) (fun c7 => ?_) (fun c7 => ?_)
  · have hf := br_pos c7 hf
    have hE : (g_low, g_high) = (v_low, v_high) := Option.some.inj hf
    simp only [Prod.mk.injEq] at hE
    obtain ⟨rfl, rfl⟩ := hE
    exact rtV hx hb hr hlk hP hD hS dX5_addUp_10
  · have hf := br_neg c7 hf
    refine lv_iload_n hx hb dX5_addUp_4 rfl (lv_at hl 1 rfl) ?_
    refine lv_bipush (v := 12) hx hb dX5_addUp_5 (by decide) ?_
    refine lv_icmp_lt (tgt := 11) hx hb dX5_addUp_7 (by decide) (fun c8 => ?_) (fun c8 => ?_)
    · have hf := br_pos c8 hf
      refine lv_aload_n hx hb dX5_addUp_11 rfl (lv_at hl 0 rfl) ?_
      refine va_get (D := D) (ci := 5) (v := .ref a_numbers) (C := RX5) (T := TX5) (N := 8) hx hb hts z1 hown hN.1 hP 0 rfl rfl 0 (by decide) z4 (fun _ h9 => h9) rfl dX5_addUp_12 ?_
      refine lv_iload_n hx hb dX5_addUp_15 rfl (lv_at hl 1 rfl) ?_
      obtain ⟨c9, hf⟩ := gd_some hf
      refine va_iald hx hb hN.1 hP 1 0 rfl rfl (ix_in c9) dX5_addUp_16 ?_
      refine lv_topi (fun y10 ey10 => ?_)
      have hf := lt_some hf y10 ey10
      refine lv_istore_n (lv' := [(2, .int y10), (0, .ref a_this), (1, .int q1)]) hx hb dX5_addUp_17 rfl hl (by decide) rfl (fun ls hl => ?_)
      refine lv_aload_n hx hb dX5_addUp_18 rfl (lv_at hl 1 rfl) ?_
      refine va_get (D := D) (ci := 5) (v := .ref a_low) (C := RX5) (T := TX5) (N := 8) hx hb hts z1 hown hN.1 hP 0 rfl rfl 1 (by decide) z2 (fun _ h9 => h9) rfl dX5_addUp_19 ?_
      refine lv_iload_n hx hb dX5_addUp_22 rfl (lv_at hl 2 rfl) ?_
      refine lv_iconst (v := 1) hx hb dX5_addUp_23 (by decide) ?_
      refine lv_iadd hx hb dX5_addUp_24 ?_
      obtain ⟨c11, hf⟩ := gd_some hf
      refine va_lald hx hb hN.1 hP 2 1 rfl rfl (ix_in c11) dX5_addUp_25 ?_
      refine lv_aload_n hx hb dX5_addUp_26 rfl (lv_at hl 1 rfl) ?_
      refine va_get (D := D) (ci := 5) (v := .long g_added) (C := RX5) (T := TX5) (N := 8) hx hb hts z1 hown hN.1 hP 0 rfl rfl 4 (by decide) z5 (fun _ h9 => h9) rfl dX5_addUp_27 ?_
      refine lv_iload_n hx hb dX5_addUp_30 rfl (lv_at hl 0 rfl) ?_
      refine lv_lshl hx hb dX5_addUp_31 rfl ?_
      refine lv_lor hx hb dX5_addUp_32 ?_
      refine lv_topl (fun y12 ey12 => ?_)
      have hf := lt_some hf y12 ey12
      refine lv_lstore_n (lv' := [(3, .long y12), (2, .int y10), (0, .ref a_this), (1, .int q1)]) hx hb dX5_addUp_33 rfl hl (by decide) rfl (fun ls hl => ?_)
      refine lv_aload_n hx hb dX5_addUp_34 rfl (lv_at hl 2 rfl) ?_
      refine va_get (D := D) (ci := 5) (v := .ref a_high) (C := RX5) (T := TX5) (N := 8) hx hb hts z1 hown hN.1 hP 0 rfl rfl 2 (by decide) z3 (fun _ h9 => h9) rfl dX5_addUp_35 ?_
      refine lv_iload_n hx hb dX5_addUp_38 rfl (lv_at hl 3 rfl) ?_
      refine lv_iconst (v := 1) hx hb dX5_addUp_39 (by decide) ?_
      refine lv_iadd hx hb dX5_addUp_40 ?_
      obtain ⟨c13, hf⟩ := gd_some hf
      refine va_lald hx hb hN.1 hP 3 1 rfl rfl (ix_in c13) dX5_addUp_41 ?_
      refine lv_aload_n hx hb dX5_addUp_42 rfl (lv_at hl 2 rfl) ?_
      refine va_get (D := D) (ci := 5) (v := .long g_added) (C := RX5) (T := TX5) (N := 8) hx hb hts z1 hown hN.1 hP 0 rfl rfl 4 (by decide) z5 (fun _ h9 => h9) rfl dX5_addUp_43 ?_
      refine lv_iload_n hx hb dX5_addUp_46 rfl (lv_at hl 1 rfl) ?_
      obtain ⟨u14, hu14, hf⟩ := bd_some hf
      refine caSL (rest := [.long (g_high (q1 + (1 : Int32)).toNatClampNeg)]) (As := [.long g_added, .int y10]) (wr := [(a_this, .inr (5, [.ref a_numbers, .ref a_low, .ref a_high, .long g_whole, .long g_added, .int g_bestPart, .int g_bestSums, .int g_bestSize])), (a_numbers, .inl (cI, 12, .inl g_numbers)), (a_low, .inl (cL, 13, .inr (.inl g_low))), (a_high, .inl (cL, 13, .inr (.inl g_high)))]) (wo := [(a_this, .inr (5, [.ref a_numbers, .ref a_low, .ref a_high, .long g_whole, .long g_added, .int g_bestPart, .int g_bestSums, .int g_bestSize])), (a_numbers, .inl (cI, 12, .inl g_numbers)), (a_low, .inl (cL, 13, .inr (.inl g_low))), (a_high, .inl (cL, 13, .inr (.inl g_high)))]) ⟨hx, hb, hml, hown, hts⟩ hN hP hD hS hA (cX6_carried_ct l D cI cL cC cZ g_added y10 u14 hu14) z6 [] [0, 1, 2, 3] [0, 1, 2, 3] rfl (by decide) rfl (by decide) (by decide) rfl (by decide) rfl hl.1 rfl (Nat.le_of_ble_eq_true rfl) dX5_addUp_47 ⟨Nat.zero_le _, Nat.zero_le _⟩ (fun H locs hP hD hS => ?_)
      refine lv_lor hx hb dX5_addUp_50 ?_
      refine lv_topl (fun y15 ey15 => ?_)
      have hf := lt_some hf y15 ey15
      refine lv_lstore (lv' := [(5, .long y15), (3, .long y12), (2, .int y10), (0, .ref a_this), (1, .int q1)]) hx hb dX5_addUp_51 hl (by decide) rfl (fun ls hl => ?_)
      refine lv_iconst (v := 0) hx hb dX5_addUp_53 (by decide) ?_
      refine lv_istore (lv' := [(7, .int (0 : Int32)), (5, .long y15), (3, .long y12), (2, .int y10), (0, .ref a_this), (1, .int q1)]) hx hb dX5_addUp_54 hl (by decide) rfl (fun ls hl => ?_)
      exact w56 q1 y12 y15 g_added g_numbers (0 : Int32) g_low g_high (v_low, v_high) H locs ls hf rfl hP hD hS (lv_sub hl [4, 5, 2, 1, 0] rfl)
    · have hf := br_neg c8 hf
      have hE : (g_low, g_high) = (v_low, v_high) := Option.some.inj hf
      simp only [Prod.mk.injEq] at hE
      obtain ⟨rfl, rfl⟩ := hE
      exact rtV hx hb hr hlk hP hD hS dX5_addUp_10
abbrev rmX5_isAhead : Room := { frames := 0, cells := 0, slots := 0, locals := 0 }
noncomputable def bX5_isAhead_32 (g_bestPart : Int32) (g_bestSize : Int32) : Option (Int32) := gd ((1 : Int32) = 0 ∨ (1 : Int32) = 1) (some ((1 : Int32)))
noncomputable def bX5_isAhead_36 (g_bestPart : Int32) (g_bestSize : Int32) : Option (Int32) := gd ((0 : Int32) = 0 ∨ (0 : Int32) = 1) (some ((0 : Int32)))
noncomputable def fX5_isAhead (q1 : Int32) (q2 : Int32) (g_bestPart : Int32) (g_bestSize : Int32) : Option (Int32) := lt_ (q1 ^^^ g_bestPart) (fun y3 => br (g_bestSize < q2) (bX5_isAhead_32 g_bestPart g_bestSize) (br (q2 = g_bestSize) (br (((q1 &&& y3) &&& (-y3)) = 0) (bX5_isAhead_36 g_bestPart g_bestSize) (bX5_isAhead_32 g_bestPart g_bestSize)) (bX5_isAhead_36 g_bestPart g_bestSize)))
set_option maxHeartbeats 4000000 in
set_option maxRecDepth 100000 in
theorem cX5_isAhead_ct (l : Launch) (D : va_G) (cI cL cC cZ : ClassId) (a_this a_numbers a_low a_high : Nat) (g_whole : Int64) (g_added : Int64) (g_bestPart : Int32) (g_bestSums : Int32) (g_bestSize : Int32) (q1 : Int32) (q2 : Int32) (r0 : Int32) (hf : fX5_isAhead q1 q2 g_bestPart g_bestSize = some r0) : CtI l yX5_isAhead wsX5_isAhead rmX5_isAhead D (tyz cI cL cC cZ) [.ref a_this, .int q1, .int q2] [(a_this, .inr (5, [.ref a_numbers, .ref a_low, .ref a_high, .long g_whole, .long g_added, .int g_bestPart, .int g_bestSums, .int g_bestSize]))] [(a_this, .inr (5, [.ref a_numbers, .ref a_low, .ref a_high, .long g_whole, .long g_added, .int g_bestPart, .int g_bestSums, .int g_bestSize]))] r0 := by
  refine CtI.make (cc := cX5_isAhead) (maxL := 4) (ty := .boolean) (by decide) rfl (Nat.le_of_ble_eq_true rfl) ?_
  intro p e s m below meth c A ls C0 hN hA hP hD hl
  obtain ⟨hx, hb, hr, hml, hown, hts, hlk⟩ := id C0
  have hown : s.vm.findClass RX5 = some m.cls := hown
  have hS : va_S A s.heap s.heap [] := va_S.rf
  have hP : va_P D vwCl [(a_this, .inr (5, [.ref a_numbers, .ref a_low, .ref a_high, .long g_whole, .long g_added, .int g_bestPart, .int g_bestSums, .int g_bestSize]))] s.heap := hP
  have hD : va_D A [(a_this, .inr (5, [.ref a_numbers, .ref a_low, .ref a_high, .long g_whole, .long g_added, .int g_bestPart, .int g_bestSums, .int g_bestSize]))] := hD
  have hl : lv_has ls 4 [(0, .ref a_this), (1, .int q1), (2, .int q2)] := hl
  have z1 : ∀ w ∈ u_ws RX5 TX5 8, w ∈ wsX5_isAhead := by decide +kernel
  have z2 := hts (.fieldLink RX5 29 "LittleSums$SwellingSearch" "bestPart" "I") (by decide +kernel)
  have z3 := hts (.fieldLink RX5 71 "LittleSums$SwellingSearch" "bestSize" "I") (by decide +kernel)
  have w32 : ∀ (g_bestPart : Int32) (g_bestSize : Int32) (H : Heap) (locs : List Loc) (ls : Array Slot), bX5_isAhead_32 g_bestPart g_bestSize = some r0 → va_P D vwCl [(a_this, .inr (5, [.ref a_numbers, .ref a_low, .ref a_high, .long g_whole, .long g_added, .int g_bestPart, .int g_bestSums, .int g_bestSize]))] H → va_D A [(a_this, .inr (5, [.ref a_numbers, .ref a_low, .ref a_high, .long g_whole, .long g_added, .int g_bestPart, .int g_bestSums, .int g_bestSize]))] → va_S A s.heap H locs → lv_has ls 4 [] → W p l e rmX5_isAhead s m ([.ref a_this, .int q1, .int q2] : List Value).toArray below meth c H locs 0 0 (MQ below (cQi D r0 A [(a_this, .inr (5, [.ref a_numbers, .ref a_low, .ref a_high, .long g_whole, .long g_added, .int g_bestPart, .int g_bestSums, .int g_bestSize]))]) ([.ref a_this, .int q1, .int q2] : List Value).toArray s 0 0 A) (F0 m 32 ls []) := by
    intro g_bestPart g_bestSize H locs ls hf hP hD hS hl
    unfold bX5_isAhead_32 at hf
    refine lv_iconst (v := 1) hx hb dX5_isAhead_32 (by decide) ?_
    refine lv_goto (tgt := 37) hx hb dX5_isAhead_33 (by decide) ?_
    obtain ⟨c1, hf⟩ := gd_some hf
    have hE : (1 : Int32) = r0 := Option.some.inj hf
    subst hE
    exact rtZ hx hb hr hlk c1 hP hD hS dX5_isAhead_37
  have w36 : ∀ (g_bestPart : Int32) (g_bestSize : Int32) (H : Heap) (locs : List Loc) (ls : Array Slot), bX5_isAhead_36 g_bestPart g_bestSize = some r0 → va_P D vwCl [(a_this, .inr (5, [.ref a_numbers, .ref a_low, .ref a_high, .long g_whole, .long g_added, .int g_bestPart, .int g_bestSums, .int g_bestSize]))] H → va_D A [(a_this, .inr (5, [.ref a_numbers, .ref a_low, .ref a_high, .long g_whole, .long g_added, .int g_bestPart, .int g_bestSums, .int g_bestSize]))] → va_S A s.heap H locs → lv_has ls 4 [] → W p l e rmX5_isAhead s m ([.ref a_this, .int q1, .int q2] : List Value).toArray below meth c H locs 0 0 (MQ below (cQi D r0 A [(a_this, .inr (5, [.ref a_numbers, .ref a_low, .ref a_high, .long g_whole, .long g_added, .int g_bestPart, .int g_bestSums, .int g_bestSize]))]) ([.ref a_this, .int q1, .int q2] : List Value).toArray s 0 0 A) (F0 m 36 ls []) := by
    intro g_bestPart g_bestSize H locs ls hf hP hD hS hl
    unfold bX5_isAhead_36 at hf
    refine lv_iconst (v := 0) hx hb dX5_isAhead_36 (by decide) ?_
    obtain ⟨c2, hf⟩ := gd_some hf
    have hE : (0 : Int32) = r0 := Option.some.inj hf
    subst hE
    exact rtZ hx hb hr hlk c2 hP hD hS dX5_isAhead_37
  unfold fX5_isAhead at hf
  obtain ⟨H, eH⟩ : ∃ z, z = s.heap := ⟨_, rfl⟩
  obtain ⟨locs, eL⟩ : ∃ z : List Loc, z = [] := ⟨_, rfl⟩
  have hP : va_P D vwCl [(a_this, .inr (5, [.ref a_numbers, .ref a_low, .ref a_high, .long g_whole, .long g_added, .int g_bestPart, .int g_bestSums, .int g_bestSize]))] H := by rw [eH]; exact hP
  have hS : va_S A s.heap H locs := by rw [eH, eL]; exact hS
  suffices hG : W p l e rmX5_isAhead s m ([.ref a_this, .int q1, .int q2] : List Value).toArray below meth c H locs 0 0 (MQ below (cQi D r0 A [(a_this, .inr (5, [.ref a_numbers, .ref a_low, .ref a_high, .long g_whole, .long g_added, .int g_bestPart, .int g_bestSums, .int g_bestSize]))]) ([.ref a_this, .int q1, .int q2] : List Value).toArray s 0 0 A) (F0 m 0 ls []) by rw [eH, eL] at hG; exact hG
  refine lv_iload_n hx hb dX5_isAhead_0 rfl (lv_at hl 1 rfl) ?_
  refine lv_aload_n hx hb dX5_isAhead_1 rfl (lv_at hl 0 rfl) ?_
  refine va_get (D := D) (ci := 5) (v := .int g_bestPart) (C := RX5) (T := TX5) (N := 8) hx hb hts z1 hown hN.1 hP 0 rfl rfl 5 (by decide) z2 (fun _ h9 => h9) rfl dX5_isAhead_2 ?_
  refine lv_ixor hx hb dX5_isAhead_5 ?_
  refine lv_topi (fun y3 ey3 => ?_)
  have hf := lt_some hf y3 ey3
  refine lv_istore_n (lv' := [(3, .int y3), (0, .ref a_this), (1, .int q1), (2, .int q2)]) hx hb dX5_isAhead_6 rfl hl (by decide) rfl (fun ls hl => ?_)
  refine lv_iload_n hx hb dX5_isAhead_7 rfl (lv_at hl 3 rfl) ?_
  refine lv_aload_n hx hb dX5_isAhead_8 rfl (lv_at hl 1 rfl) ?_
  refine va_get (D := D) (ci := 5) (v := .int g_bestSize) (C := RX5) (T := TX5) (N := 8) hx hb hts z1 hown hN.1 hP 0 rfl rfl 7 (by decide) z3 (fun _ h9 => h9) rfl dX5_isAhead_9 ?_
  refine lv_icmp_gt (tgt := 32) hx hb dX5_isAhead_12 (by decide) (fun c4 => ?_) (fun c4 => ?_)
  · have hf := br_pos c4 hf
    exact w32 g_bestPart g_bestSize H locs ls hf hP hD hS (lv_sub hl [] rfl)
  · have hf := br_neg c4 hf
    refine lv_iload_n hx hb dX5_isAhead_15 rfl (lv_at hl 3 rfl) ?_
    refine lv_aload_n hx hb dX5_isAhead_16 rfl (lv_at hl 1 rfl) ?_
    refine va_get (D := D) (ci := 5) (v := .int g_bestSize) (C := RX5) (T := TX5) (N := 8) hx hb hts z1 hown hN.1 hP 0 rfl rfl 7 (by decide) z3 (fun _ h9 => h9) rfl dX5_isAhead_17 ?_
    refine lv_icmp_ne (tgt := 36) hx hb dX5_isAhead_20 (by decide) (fun c5 => ?_) (fun c5 => ?_)
    · have hf := br_neg c5 hf
      exact w36 g_bestPart g_bestSize H locs ls hf hP hD hS (lv_sub hl [] rfl)
    · have hf := br_pos c5 hf
      refine lv_iload_n hx hb dX5_isAhead_23 rfl (lv_at hl 2 rfl) ?_
      refine lv_iload_n hx hb dX5_isAhead_24 rfl (lv_at hl 0 rfl) ?_
      refine lv_iand hx hb dX5_isAhead_25 ?_
      refine lv_iload_n hx hb dX5_isAhead_26 rfl (lv_at hl 0 rfl) ?_
      refine lv_ineg hx hb dX5_isAhead_27 ?_
      refine lv_iand hx hb dX5_isAhead_28 ?_
      refine lv_if_eq (tgt := 36) hx hb dX5_isAhead_29 (by decide) (fun c6 => ?_) (fun c6 => ?_)
      · have hf := br_pos c6 hf
        exact w36 g_bestPart g_bestSize H locs ls hf hP hD hS (lv_sub hl [] rfl)
      · have hf := br_neg c6 hf
        exact w32 g_bestPart g_bestSize H locs ls hf hP hD hS (lv_sub hl [] rfl)
abbrev rmX5_judge : Room := { frames := 1, cells := 0, slots := 0, locals := 23 }
noncomputable def bX5_judge_51 (x1 : Int32) (x2 : Int32) (x3 : Int32) (g_bestPart : Int32) (g_bestSums : Int32) (g_bestSize : Int32) : Option (Int32 × Int32 × Int32) := some ((x1, x2, x3))
noncomputable def fX5_judge (q1 : Int32) (q2 : Int32) (g_bestPart : Int32) (g_bestSums : Int32) (g_bestSize : Int32) : Option (Int32 × Int32 × Int32) := bd (fJ6_bitCount_0f7a4 q1) (fun u1 => lt_ (q2 * g_bestSize) (fun y2 => lt_ (g_bestSums * u1) (fun y3 => br (g_bestPart = 0) (bX5_judge_51 q1 q2 u1 g_bestPart g_bestSums g_bestSize) (br (y2 < y3) (bX5_judge_51 q1 q2 u1 g_bestPart g_bestSums g_bestSize) (br (y2 = y3) (bd (fX5_isAhead q1 u1 g_bestPart g_bestSize) (fun u7 => br (u7 = 0) (some ((g_bestPart, g_bestSums, g_bestSize))) (bX5_judge_51 q1 q2 u1 g_bestPart g_bestSums g_bestSize))) (some ((g_bestPart, g_bestSums, g_bestSize))))))))
set_option maxHeartbeats 4000000 in
set_option maxRecDepth 100000 in
theorem cX5_judge_ct (l : Launch) (D : va_G) (cI cL cC cZ : ClassId) (a_this a_numbers a_low a_high : Nat) (g_whole : Int64) (g_added : Int64) (g_bestPart : Int32) (g_bestSums : Int32) (g_bestSize : Int32) (q1 : Int32) (q2 : Int32) (v_bestPart : Int32) (v_bestSums : Int32) (v_bestSize : Int32) (hf : fX5_judge q1 q2 g_bestPart g_bestSums g_bestSize = some ((v_bestPart, v_bestSums, v_bestSize))) : CtV l yX5_judge wsX5_judge rmX5_judge D (tyz cI cL cC cZ) [.ref a_this, .int q1, .int q2] [(a_this, .inr (5, [.ref a_numbers, .ref a_low, .ref a_high, .long g_whole, .long g_added, .int g_bestPart, .int g_bestSums, .int g_bestSize]))] [(a_this, .inr (5, [.ref a_numbers, .ref a_low, .ref a_high, .long g_whole, .long g_added, .int v_bestPart, .int v_bestSums, .int v_bestSize]))] := by
  refine CtV.make (cc := cX5_judge) (maxL := 6) (by decide) rfl (Nat.le_of_ble_eq_true rfl) ?_
  intro p e s m below meth c A ls C0 hN hA hP hD hl
  obtain ⟨hx, hb, hr, hml, hown, hts, hlk⟩ := id C0
  have hown : s.vm.findClass RX5 = some m.cls := hown
  have hS : va_S A s.heap s.heap [] := va_S.rf
  have hP : va_P D vwCl [(a_this, .inr (5, [.ref a_numbers, .ref a_low, .ref a_high, .long g_whole, .long g_added, .int g_bestPart, .int g_bestSums, .int g_bestSize]))] s.heap := hP
  have hD : va_D A [(a_this, .inr (5, [.ref a_numbers, .ref a_low, .ref a_high, .long g_whole, .long g_added, .int g_bestPart, .int g_bestSums, .int g_bestSize]))] := hD
  have hl : lv_has ls 6 [(0, .ref a_this), (1, .int q1), (2, .int q2)] := hl
  have z1 : ∀ w ∈ u_ws RX5 TX5 8, w ∈ wsX5_judge := by decide +kernel
  have z2 := hts (.fieldLink RX5 29 "LittleSums$SwellingSearch" "bestPart" "I") (by decide +kernel)
  have z3 := hts (.fieldLink RX5 74 "LittleSums$SwellingSearch" "bestSums" "I") (by decide +kernel)
  have z4 := hts (.fieldLink RX5 71 "LittleSums$SwellingSearch" "bestSize" "I") (by decide +kernel)
  have z5 := va_cwS (R := rmX5_judge) (rm := rmJ6_bitCount_0f7a4) (mc := 0) (ms := 0) 1 hts gX5_judge_J6_bitCount_0f7a4 rfl rfl rfl (by decide +kernel) ⟨Nat.le_of_ble_eq_true rfl, Nat.le_of_ble_eq_true rfl⟩
  have z6 := cwV (R := rmX5_judge) (rm := rmX5_isAhead) (mc := 0) (ms := 0) 2 hts gX5_judge_X5_isAhead rfl rfl rfl (by decide +kernel) ⟨Nat.le_of_ble_eq_true rfl, Nat.le_of_ble_eq_true rfl⟩
  have w51 : ∀ (x1 : Int32) (x2 : Int32) (x3 : Int32) (g_bestPart : Int32) (g_bestSums : Int32) (g_bestSize : Int32) (H : Heap) (locs : List Loc) (ls : Array Slot), bX5_judge_51 x1 x2 x3 g_bestPart g_bestSums g_bestSize = some ((v_bestPart, v_bestSums, v_bestSize)) → va_P D vwCl [(a_this, .inr (5, [.ref a_numbers, .ref a_low, .ref a_high, .long g_whole, .long g_added, .int g_bestPart, .int g_bestSums, .int g_bestSize]))] H → va_D A [(a_this, .inr (5, [.ref a_numbers, .ref a_low, .ref a_high, .long g_whole, .long g_added, .int g_bestPart, .int g_bestSums, .int g_bestSize]))] → va_S A s.heap H locs → lv_has ls 6 [(0, .ref a_this), (1, .int x1), (2, .int x2), (3, .int x3)] → W p l e rmX5_judge s m ([.ref a_this, .int q1, .int q2] : List Value).toArray below meth c H locs 0 0 (MQ below (cQv D A [(a_this, .inr (5, [.ref a_numbers, .ref a_low, .ref a_high, .long g_whole, .long g_added, .int v_bestPart, .int v_bestSums, .int v_bestSize]))]) ([.ref a_this, .int q1, .int q2] : List Value).toArray s 0 0 A) (F0 m 51 ls []) := by
    intro x1 x2 x3 g_bestPart g_bestSums g_bestSize H locs ls hf hP hD hS hl
    unfold bX5_judge_51 at hf
    refine lv_aload_n hx hb dX5_judge_51 rfl (lv_at hl 0 rfl) ?_
    refine lv_iload_n hx hb dX5_judge_52 rfl (lv_at hl 1 rfl) ?_
    refine va_put (D := D) (ci := 5) (v := .int x1) (ty := .int) (C := RX5) (T := TX5) (N := 8) hx hb hts z1 tyX5 tyX5_ok nmX5 hown hN.1 hP hD hS 0 rfl rfl 5 (by decide) z2 (fun _ h9 => h9) rfl (by decide +kernel) rfl rfl (Nat.le_of_ble_eq_true rfl) dX5_judge_53 (fun H locs hP hD hS => ?_)
    have hP : va_P D vwCl [(a_this, .inr (5, [.ref a_numbers, .ref a_low, .ref a_high, .long g_whole, .long g_added, .int x1, .int g_bestSums, .int g_bestSize]))] H := hP
    have hD : va_D A [(a_this, .inr (5, [.ref a_numbers, .ref a_low, .ref a_high, .long g_whole, .long g_added, .int x1, .int g_bestSums, .int g_bestSize]))] := hD
    refine lv_aload_n hx hb dX5_judge_56 rfl (lv_at hl 0 rfl) ?_
    refine lv_iload_n hx hb dX5_judge_57 rfl (lv_at hl 2 rfl) ?_
    refine va_put (D := D) (ci := 5) (v := .int x2) (ty := .int) (C := RX5) (T := TX5) (N := 8) hx hb hts z1 tyX5 tyX5_ok nmX5 hown hN.1 hP hD hS 0 rfl rfl 6 (by decide) z3 (fun _ h9 => h9) rfl (by decide +kernel) rfl rfl (Nat.le_of_ble_eq_true rfl) dX5_judge_58 (fun H locs hP hD hS => ?_)
    have hP : va_P D vwCl [(a_this, .inr (5, [.ref a_numbers, .ref a_low, .ref a_high, .long g_whole, .long g_added, .int x1, .int x2, .int g_bestSize]))] H := hP
    have hD : va_D A [(a_this, .inr (5, [.ref a_numbers, .ref a_low, .ref a_high, .long g_whole, .long g_added, .int x1, .int x2, .int g_bestSize]))] := hD
    refine lv_aload_n hx hb dX5_judge_61 rfl (lv_at hl 0 rfl) ?_
    refine lv_iload_n hx hb dX5_judge_62 rfl (lv_at hl 3 rfl) ?_
    refine va_put (D := D) (ci := 5) (v := .int x3) (ty := .int) (C := RX5) (T := TX5) (N := 8) hx hb hts z1 tyX5 tyX5_ok nmX5 hown hN.1 hP hD hS 0 rfl rfl 7 (by decide) z4 (fun _ h9 => h9) rfl (by decide +kernel) rfl rfl (Nat.le_of_ble_eq_true rfl) dX5_judge_63 (fun H locs hP hD hS => ?_)
    have hP : va_P D vwCl [(a_this, .inr (5, [.ref a_numbers, .ref a_low, .ref a_high, .long g_whole, .long g_added, .int x1, .int x2, .int x3]))] H := hP
    have hD : va_D A [(a_this, .inr (5, [.ref a_numbers, .ref a_low, .ref a_high, .long g_whole, .long g_added, .int x1, .int x2, .int x3]))] := hD
    have hE : (x1, x2, x3) = (v_bestPart, v_bestSums, v_bestSize) := Option.some.inj hf
    simp only [Prod.mk.injEq] at hE
    obtain ⟨rfl, rfl, rfl⟩ := hE
    exact rtV hx hb hr hlk hP hD hS dX5_judge_66
  unfold fX5_judge at hf
  obtain ⟨H, eH⟩ : ∃ z, z = s.heap := ⟨_, rfl⟩
  obtain ⟨locs, eL⟩ : ∃ z : List Loc, z = [] := ⟨_, rfl⟩
  have hP : va_P D vwCl [(a_this, .inr (5, [.ref a_numbers, .ref a_low, .ref a_high, .long g_whole, .long g_added, .int g_bestPart, .int g_bestSums, .int g_bestSize]))] H := by rw [eH]; exact hP
  have hS : va_S A s.heap H locs := by rw [eH, eL]; exact hS
  suffices hG : W p l e rmX5_judge s m ([.ref a_this, .int q1, .int q2] : List Value).toArray below meth c H locs 0 0 (MQ below (cQv D A [(a_this, .inr (5, [.ref a_numbers, .ref a_low, .ref a_high, .long g_whole, .long g_added, .int v_bestPart, .int v_bestSums, .int v_bestSize]))]) ([.ref a_this, .int q1, .int q2] : List Value).toArray s 0 0 A) (F0 m 0 ls []) by rw [eH, eL] at hG; exact hG
  refine lv_iload_n hx hb dX5_judge_0 rfl (lv_at hl 1 rfl) ?_
  obtain ⟨u1, hu1, hf⟩ := bd_some hf
  refine caSI (rest := []) (As := [.int q1]) (wr := [(a_this, .inr (5, [.ref a_numbers, .ref a_low, .ref a_high, .long g_whole, .long g_added, .int g_bestPart, .int g_bestSums, .int g_bestSize]))]) (wo := [(a_this, .inr (5, [.ref a_numbers, .ref a_low, .ref a_high, .long g_whole, .long g_added, .int g_bestPart, .int g_bestSums, .int g_bestSize]))]) ⟨hx, hb, hml, hown, hts⟩ hN hP hD hS hA (cJ6_bitCount_0f7a4_ct l D cI cL cC cZ q1 u1 hu1) z5 [] [0] [0] rfl (by decide) rfl (by decide) (by decide) rfl (by decide) rfl hl.1 rfl (Nat.le_of_ble_eq_true rfl) dX5_judge_1 ⟨Nat.zero_le _, Nat.zero_le _⟩ (fun H locs hP hD hS => ?_)
  refine lv_istore_n (lv' := [(3, .int u1), (0, .ref a_this), (1, .int q1), (2, .int q2)]) hx hb dX5_judge_4 rfl hl (by decide) rfl (fun ls hl => ?_)
  refine lv_iload_n hx hb dX5_judge_5 rfl (lv_at hl 3 rfl) ?_
  refine lv_aload_n hx hb dX5_judge_6 rfl (lv_at hl 1 rfl) ?_
  refine va_get (D := D) (ci := 5) (v := .int g_bestSize) (C := RX5) (T := TX5) (N := 8) hx hb hts z1 hown hN.1 hP 0 rfl rfl 7 (by decide) z4 (fun _ h9 => h9) rfl dX5_judge_7 ?_
  refine lv_imul hx hb dX5_judge_10 ?_
  refine lv_topi (fun y2 ey2 => ?_)
  have hf := lt_some hf y2 ey2
  refine lv_istore (lv' := [(4, .int y2), (3, .int u1), (0, .ref a_this), (1, .int q1), (2, .int q2)]) hx hb dX5_judge_11 hl (by decide) rfl (fun ls hl => ?_)
  refine lv_aload_n hx hb dX5_judge_13 rfl (lv_at hl 2 rfl) ?_
  refine va_get (D := D) (ci := 5) (v := .int g_bestSums) (C := RX5) (T := TX5) (N := 8) hx hb hts z1 hown hN.1 hP 0 rfl rfl 6 (by decide) z3 (fun _ h9 => h9) rfl dX5_judge_14 ?_
  refine lv_iload_n hx hb dX5_judge_17 rfl (lv_at hl 1 rfl) ?_
  refine lv_imul hx hb dX5_judge_18 ?_
  refine lv_topi (fun y3 ey3 => ?_)
  have hf := lt_some hf y3 ey3
  refine lv_istore (lv' := [(5, .int y3), (4, .int y2), (3, .int u1), (0, .ref a_this), (1, .int q1), (2, .int q2)]) hx hb dX5_judge_19 hl (by decide) rfl (fun ls hl => ?_)
  refine lv_aload_n hx hb dX5_judge_21 rfl (lv_at hl 3 rfl) ?_
  refine va_get (D := D) (ci := 5) (v := .int g_bestPart) (C := RX5) (T := TX5) (N := 8) hx hb hts z1 hown hN.1 hP 0 rfl rfl 5 (by decide) z2 (fun _ h9 => h9) rfl dX5_judge_22 ?_
  refine lv_if_eq (tgt := 51) hx hb dX5_judge_25 (by decide) (fun c4 => ?_) (fun c4 => ?_)
  · have hf := br_pos c4 hf
    exact w51 q1 q2 u1 g_bestPart g_bestSums g_bestSize H locs ls hf hP hD hS (lv_sub hl [3, 4, 5, 2] rfl)
  · have hf := br_neg c4 hf
    refine lv_iload hx hb dX5_judge_28 (lv_at hl 1 rfl) ?_
    refine lv_iload hx hb dX5_judge_30 (lv_at hl 0 rfl) ?_
    refine lv_icmp_lt (tgt := 51) hx hb dX5_judge_32 (by decide) (fun c5 => ?_) (fun c5 => ?_)
    · have hf := br_pos c5 hf
      exact w51 q1 q2 u1 g_bestPart g_bestSums g_bestSize H locs ls hf hP hD hS (lv_sub hl [3, 4, 5, 2] rfl)
    · have hf := br_neg c5 hf
      refine lv_iload hx hb dX5_judge_35 (lv_at hl 1 rfl) ?_
      refine lv_iload hx hb dX5_judge_37 (lv_at hl 0 rfl) ?_
      refine lv_icmp_ne (tgt := 66) hx hb dX5_judge_39 (by decide) (fun c6 => ?_) (fun c6 => ?_)
      · have hf := br_neg c6 hf
        have hE : (g_bestPart, g_bestSums, g_bestSize) = (v_bestPart, v_bestSums, v_bestSize) := Option.some.inj hf
        simp only [Prod.mk.injEq] at hE
        obtain ⟨rfl, rfl, rfl⟩ := hE
        exact rtV hx hb hr hlk hP hD hS dX5_judge_66
      · have hf := br_pos c6 hf
        refine lv_aload_n hx hb dX5_judge_42 rfl (lv_at hl 3 rfl) ?_
        refine lv_iload_n hx hb dX5_judge_43 rfl (lv_at hl 4 rfl) ?_
        refine lv_iload_n hx hb dX5_judge_44 rfl (lv_at hl 2 rfl) ?_
        obtain ⟨u7, hu7, hf⟩ := bd_some hf
        refine caVI (rest := []) (As := [.int q1, .int u1]) (wr := []) (wo := [(a_this, .inr (5, [.ref a_numbers, .ref a_low, .ref a_high, .long g_whole, .long g_added, .int g_bestPart, .int g_bestSums, .int g_bestSize]))]) ⟨hx, hb, hml, hown, hts⟩ hN hP hD hS hA (cX5_isAhead_ct l D cI cL cC cZ a_this a_numbers a_low a_high g_whole g_added g_bestPart g_bestSums g_bestSize q1 u1 u7 hu7) z6 0 5 rfl rfl [0] [] [0] rfl (by decide) rfl (by decide) (by decide) rfl (by decide) rfl hl.1 rfl (Nat.le_of_ble_eq_true rfl) dX5_judge_45 ⟨Nat.zero_le _, Nat.zero_le _⟩ (fun H locs hP hD hS => ?_)
        refine lv_if_eq (tgt := 66) hx hb dX5_judge_48 (by decide) (fun c8 => ?_) (fun c8 => ?_)
        · have hf := br_pos c8 hf
          have hE : (g_bestPart, g_bestSums, g_bestSize) = (v_bestPart, v_bestSums, v_bestSize) := Option.some.inj hf
          simp only [Prod.mk.injEq] at hE
          obtain ⟨rfl, rfl, rfl⟩ := hE
          exact rtV hx hb hr hlk hP hD hS dX5_judge_66
        · have hf := br_neg c8 hf
          exact w51 q1 q2 u1 g_bestPart g_bestSums g_bestSize H locs ls hf hP hD hS (lv_sub hl [3, 4, 5, 2] rfl)
abbrev rmX5_seek : Room := { frames := 3, cells := 0, slots := 0, locals := 66 }
noncomputable def bX5_seek_63 (x5 : Int32) (g_whole : Int64) (g_added : Int64) (g_numbers : Nat → Int32) (x6 : Int32) (g_bestPart : Int32) (g_bestSums : Int32) (g_bestSize : Int32) (g_low : Nat → Int64) (g_high : Nat → Int64) : Option ((Int32 × Int32 × Int32 × Int32 × (Nat → Int64) × (Nat → Int64)) ⊕ (Int64 × Int64 × Int32 × Int32 × Int32 × (Nat → Int32) × (Nat → Int64) × (Nat → Int64))) := br (((1 : Int32) <<< (x5 &&& 31)) ≤ x6) (some (Sum.inr ((g_whole, g_added, g_bestPart, g_bestSums, g_bestSize, g_numbers, g_low, g_high)))) (bd (fJ6_numberOfTrailingZeros_0f7a4 x6) (fun u2 => bd (fX5_addUp u2 g_added g_numbers g_low g_high) (fun u3 => gd (¬ (0 : Int32) < 0 ∧ (0 : Int32).toNatClampNeg < 13) (bd (fJ13_bitCount_95d88 (u3.1 (0 : Int32).toNatClampNeg)) (fun u5 => gd (¬ (0 : Int32) < 0 ∧ (0 : Int32).toNatClampNeg < 13) (bd (fJ13_bitCount_95d88 (u3.2 (0 : Int32).toNatClampNeg)) (fun u7 => bd (fX5_judge x6 (u5 + u7) g_bestPart g_bestSums g_bestSize) (fun u8 => lt_ (x6 + (1 : Int32)) (fun y9 => some (Sum.inl ((y9, u8.1, u8.2.1, u8.2.2, u3.1, u3.2))))))))))))
noncomputable def sX5_seek_63 (x5 : Int32) (g_whole : Int64) (g_added : Int64) (g_numbers : Nat → Int32) : (Int32 × Int32 × Int32 × Int32 × (Nat → Int64) × (Nat → Int64)) → Option ((Int32 × Int32 × Int32 × Int32 × (Nat → Int64) × (Nat → Int64)) ⊕ (Int64 × Int64 × Int32 × Int32 × Int32 × (Nat → Int32) × (Nat → Int64) × (Nat → Int64))) := fun q => bX5_seek_63 x5 g_whole g_added g_numbers q.1 q.2.1 q.2.2.1 q.2.2.2.1 q.2.2.2.2.1 q.2.2.2.2.2
noncomputable def bX5_seek_19 (x1 : Int64) (x3 : Int64) (g_whole : Int64) (g_added : Int64) (g_bestPart : Int32) (g_bestSums : Int32) (g_bestSize : Int32) (g_numbers : Nat → Int32) (g_low : Nat → Int64) (g_high : Nat → Int64) : Option (Int64 × Int64 × Int32 × Int32 × Int32 × (Nat → Int32) × (Nat → Int64) × (Nat → Int64)) := bd (fJ7_fill_d0a16 (0 : Int64) 13 g_low) (fun u10 => bd (fJ7_fill_d0a16 (0 : Int64) 13 g_high) (fun u11 => bd (fX7_listNumbers x1 12 g_numbers) (fun u12 => run (sX5_seek_63 u12.1 x1 x3 u12.2) (((1 : Int32), (0 : Int32), g_bestSums, g_bestSize, u10, u11)))))
noncomputable def fX5_seek (q1 : Int64) (q3 : Int64) (g_whole : Int64) (g_added : Int64) (g_bestPart : Int32) (g_bestSums : Int32) (g_bestSize : Int32) (g_numbers : Nat → Int32) (g_low : Nat → Int64) (g_high : Nat → Int64) : Option (Int64 × Int64 × Int32 × Int32 × Int32 × (Nat → Int32) × (Nat → Int64) × (Nat → Int64)) := br ((lg_cmp q1 g_whole) = 0) (br ((lg_cmp q3 g_added) = 0) (some ((g_whole, g_added, g_bestPart, g_bestSums, g_bestSize, g_numbers, g_low, g_high))) (bX5_seek_19 q1 q3 g_whole g_added g_bestPart g_bestSums g_bestSize g_numbers g_low g_high)) (bX5_seek_19 q1 q3 g_whole g_added g_bestPart g_bestSums g_bestSize g_numbers g_low g_high)
set_option maxHeartbeats 4000000 in
set_option maxRecDepth 100000 in
theorem cX5_seek_ct (l : Launch) (D : va_G) (cI cL cC cZ : ClassId) (a_this a_numbers a_low a_high : Nat) (g_whole : Int64) (g_added : Int64) (g_bestPart : Int32) (g_bestSums : Int32) (g_bestSize : Int32) (g_numbers : Nat → Int32) (g_low : Nat → Int64) (g_high : Nat → Int64) (q1 : Int64) (q3 : Int64) (v_whole : Int64) (v_added : Int64) (v_bestPart : Int32) (v_bestSums : Int32) (v_bestSize : Int32) (v_numbers : Nat → Int32) (v_low : Nat → Int64) (v_high : Nat → Int64) (hf : fX5_seek q1 q3 g_whole g_added g_bestPart g_bestSums g_bestSize g_numbers g_low g_high = some ((v_whole, v_added, v_bestPart, v_bestSums, v_bestSize, v_numbers, v_low, v_high))) : CtV l yX5_seek wsX5_seek rmX5_seek D (tyz cI cL cC cZ) [.ref a_this, .long q1, .long q3] [(a_this, .inr (5, [.ref a_numbers, .ref a_low, .ref a_high, .long g_whole, .long g_added, .int g_bestPart, .int g_bestSums, .int g_bestSize])), (a_numbers, .inl (cI, 12, .inl g_numbers)), (a_low, .inl (cL, 13, .inr (.inl g_low))), (a_high, .inl (cL, 13, .inr (.inl g_high)))] [(a_this, .inr (5, [.ref a_numbers, .ref a_low, .ref a_high, .long v_whole, .long v_added, .int v_bestPart, .int v_bestSums, .int v_bestSize])), (a_numbers, .inl (cI, 12, .inl v_numbers)), (a_low, .inl (cL, 13, .inr (.inl v_low))), (a_high, .inl (cL, 13, .inr (.inl v_high)))] := by
  refine CtV.make (cc := cX5_seek) (maxL := 7) (by decide) rfl (Nat.le_of_ble_eq_true rfl) ?_
  intro p e s m below meth c A ls C0 hN hA hP hD hl
  obtain ⟨hx, hb, hr, hml, hown, hts, hlk⟩ := id C0
  have hown : s.vm.findClass RX5 = some m.cls := hown
  have hS : va_S A s.heap s.heap [] := va_S.rf
  have hP : va_P D vwCl [(a_this, .inr (5, [.ref a_numbers, .ref a_low, .ref a_high, .long g_whole, .long g_added, .int g_bestPart, .int g_bestSums, .int g_bestSize])), (a_numbers, .inl (cI, 12, .inl g_numbers)), (a_low, .inl (cL, 13, .inr (.inl g_low))), (a_high, .inl (cL, 13, .inr (.inl g_high)))] s.heap := hP
  have hD : va_D A [(a_this, .inr (5, [.ref a_numbers, .ref a_low, .ref a_high, .long g_whole, .long g_added, .int g_bestPart, .int g_bestSums, .int g_bestSize])), (a_numbers, .inl (cI, 12, .inl g_numbers)), (a_low, .inl (cL, 13, .inr (.inl g_low))), (a_high, .inl (cL, 13, .inr (.inl g_high)))] := hD
  have hl : lv_has ls 7 [(0, .ref a_this), (1, .long q1), (3, .long q3)] := hl
  have z1 := va_cwS (R := rmX5_seek) (rm := rmJ6_numberOfTrailingZeros_0f7a4) (mc := 0) (ms := 0) 1 hts gX5_seek_J6_numberOfTrailingZeros_0f7a4 rfl rfl rfl (by decide +kernel) ⟨Nat.le_of_ble_eq_true rfl, Nat.le_of_ble_eq_true rfl⟩
  have z2 := cwV (R := rmX5_seek) (rm := rmX5_addUp) (mc := 0) (ms := 0) 1 hts gX5_seek_X5_addUp rfl rfl rfl (by decide +kernel) ⟨Nat.le_of_ble_eq_true rfl, Nat.le_of_ble_eq_true rfl⟩
  have z3 : ∀ w ∈ u_ws RX5 TX5 8, w ∈ wsX5_seek := by decide +kernel
  have z4 := hts (.fieldLink RX5 15 "LittleSums$SwellingSearch" "low" "[J") (by decide +kernel)
  have z5 := va_cwS (R := rmX5_seek) (rm := rmJ13_bitCount_95d88) (mc := 0) (ms := 0) 1 hts gX5_seek_J13_bitCount_95d88 rfl rfl rfl (by decide +kernel) ⟨Nat.le_of_ble_eq_true rfl, Nat.le_of_ble_eq_true rfl⟩
  have z6 := hts (.fieldLink RX5 19 "LittleSums$SwellingSearch" "high" "[J") (by decide +kernel)
  have z7 := cwV (R := rmX5_seek) (rm := rmX5_judge) (mc := 0) (ms := 0) 2 hts gX5_seek_X5_judge rfl rfl rfl (by decide +kernel) ⟨Nat.le_of_ble_eq_true rfl, Nat.le_of_ble_eq_true rfl⟩
  have z8 := hts (.fieldLink RX5 22 "LittleSums$SwellingSearch" "whole" "J") (by decide +kernel)
  have z9 := hts (.fieldLink RX5 26 "LittleSums$SwellingSearch" "added" "J") (by decide +kernel)
  have z10 := hts (.fieldLink RX5 29 "LittleSums$SwellingSearch" "bestPart" "I") (by decide +kernel)
  have z11 := va_cwS (R := rmX5_seek) (rm := rmJ7_fill_d0a16) (mc := 0) (ms := 0) 2 hts gX5_seek_J7_fill_d0a16 rfl rfl rfl (by decide +kernel) ⟨Nat.le_of_ble_eq_true rfl, Nat.le_of_ble_eq_true rfl⟩
  have z12 := hts (.fieldLink RX5 9 "LittleSums$SwellingSearch" "numbers" "[I") (by decide +kernel)
  have z13 := va_cnB (R := rmX5_seek) (rm := rmX7_listNumbers) (mc := 0) (ms := 0) 2 hts ggX5_seek_X7_listNumbers rfl rfl rfl (hN.2 (RX5, 39, yX7_listNumbers, "LittleSums") (by decide +kernel)) (hts (.initialized RX7) (by decide +kernel)) (by decide +kernel) ⟨Nat.le_of_ble_eq_true rfl, Nat.le_of_ble_eq_true rfl⟩
  have z14 := hts (.static yX7_listNumbers) (by decide +kernel)
  have w63 : ∀ (x5 : Int32) (g_whole : Int64) (g_added : Int64) (g_numbers : Nat → Int32) (x6 : Int32) (g_bestPart : Int32) (g_bestSums : Int32) (g_bestSize : Int32) (g_low : Nat → Int64) (g_high : Nat → Int64) (t : Int64 × Int64 × Int32 × Int32 × Int32 × (Nat → Int32) × (Nat → Int64) × (Nat → Int64)) (H : Heap) (locs : List Loc) (ls : Array Slot), run (sX5_seek_63 x5 g_whole g_added g_numbers) ((x6, g_bestPart, g_bestSums, g_bestSize, g_low, g_high)) = some t → (fun z => z = (v_whole, v_added, v_bestPart, v_bestSums, v_bestSize, v_numbers, v_low, v_high)) t → va_P D vwCl [(a_this, .inr (5, [.ref a_numbers, .ref a_low, .ref a_high, .long g_whole, .long g_added, .int g_bestPart, .int g_bestSums, .int g_bestSize])), (a_numbers, .inl (cI, 12, .inl g_numbers)), (a_low, .inl (cL, 13, .inr (.inl g_low))), (a_high, .inl (cL, 13, .inr (.inl g_high)))] H → va_D A [(a_this, .inr (5, [.ref a_numbers, .ref a_low, .ref a_high, .long g_whole, .long g_added, .int g_bestPart, .int g_bestSums, .int g_bestSize])), (a_numbers, .inl (cI, 12, .inl g_numbers)), (a_low, .inl (cL, 13, .inr (.inl g_low))), (a_high, .inl (cL, 13, .inr (.inl g_high)))] → va_S A s.heap H locs → lv_has ls 7 [(0, .ref a_this), (5, .int x5), (6, .int x6)] → W p l e rmX5_seek s m ([.ref a_this, .long q1, .long q3] : List Value).toArray below meth c H locs 0 0 (MQ below (cQv D A [(a_this, .inr (5, [.ref a_numbers, .ref a_low, .ref a_high, .long v_whole, .long v_added, .int v_bestPart, .int v_bestSums, .int v_bestSize])), (a_numbers, .inl (cI, 12, .inl v_numbers)), (a_low, .inl (cL, 13, .inr (.inl v_low))), (a_high, .inl (cL, 13, .inr (.inl v_high)))]) ([.ref a_this, .long q1, .long q3] : List Value).toArray s 0 0 A) (F0 m 63 ls []) := by
    intro x5 g_whole g_added g_numbers
    obtain ⟨F63, eF63⟩ : ∃ F : (Int32 × Int32 × Int32 × Int32 × (Nat → Int64) × (Nat → Int64)) → Prop, F = fun q => ∀ (H : Heap) (locs : List Loc) (ls : Array Slot), va_P D vwCl [(a_this, .inr (5, [.ref a_numbers, .ref a_low, .ref a_high, .long g_whole, .long g_added, .int q.2.1, .int q.2.2.1, .int q.2.2.2.1])), (a_numbers, .inl (cI, 12, .inl g_numbers)), (a_low, .inl (cL, 13, .inr (.inl q.2.2.2.2.1))), (a_high, .inl (cL, 13, .inr (.inl q.2.2.2.2.2)))] H → va_D A [(a_this, .inr (5, [.ref a_numbers, .ref a_low, .ref a_high, .long g_whole, .long g_added, .int q.2.1, .int q.2.2.1, .int q.2.2.2.1])), (a_numbers, .inl (cI, 12, .inl g_numbers)), (a_low, .inl (cL, 13, .inr (.inl q.2.2.2.2.1))), (a_high, .inl (cL, 13, .inr (.inl q.2.2.2.2.2)))] → va_S A s.heap H locs → lv_has ls 7 [(0, .ref a_this), (5, .int x5), (6, .int q.1)] → W p l e rmX5_seek s m ([.ref a_this, .long q1, .long q3] : List Value).toArray below meth c H locs 0 0 (MQ below (cQv D A [(a_this, .inr (5, [.ref a_numbers, .ref a_low, .ref a_high, .long v_whole, .long v_added, .int v_bestPart, .int v_bestSums, .int v_bestSize])), (a_numbers, .inl (cI, 12, .inl v_numbers)), (a_low, .inl (cL, 13, .inr (.inl v_low))), (a_high, .inl (cL, 13, .inr (.inl v_high)))]) ([.ref a_this, .long q1, .long q3] : List Value).toArray s 0 0 A) (F0 m 63 ls []) := ⟨_, rfl⟩
    have key : ∀ (q : Int32 × Int32 × Int32 × Int32 × (Nat → Int64) × (Nat → Int64)) (t : Int64 × Int64 × Int32 × Int32 × Int32 × (Nat → Int32) × (Nat → Int64) × (Nat → Int64)), run (sX5_seek_63 x5 g_whole g_added g_numbers) q = some t → (fun z => z = (v_whole, v_added, v_bestPart, v_bestSums, v_bestSize, v_numbers, v_low, v_high)) t → F63 q := by
      refine loop_rule (sX5_seek_63 x5 g_whole g_added g_numbers) F63 (fun z => z = (v_whole, v_added, v_bestPart, v_bestSums, v_bestSize, v_numbers, v_low, v_high)) ?_
      intro q t hf hF
      have hF : (Sum.elim F63 (fun z => z = (v_whole, v_added, v_bestPart, v_bestSums, v_bestSize, v_numbers, v_low, v_high))) t := hF
      rw [eF63]
      obtain ⟨x6, g_bestPart, g_bestSums, g_bestSize, g_low, g_high⟩ := q
      intro H locs ls hP hD hS hl
      have hP : va_P D vwCl [(a_this, .inr (5, [.ref a_numbers, .ref a_low, .ref a_high, .long g_whole, .long g_added, .int g_bestPart, .int g_bestSums, .int g_bestSize])), (a_numbers, .inl (cI, 12, .inl g_numbers)), (a_low, .inl (cL, 13, .inr (.inl g_low))), (a_high, .inl (cL, 13, .inr (.inl g_high)))] H := hP
      have hD : va_D A [(a_this, .inr (5, [.ref a_numbers, .ref a_low, .ref a_high, .long g_whole, .long g_added, .int g_bestPart, .int g_bestSums, .int g_bestSize])), (a_numbers, .inl (cI, 12, .inl g_numbers)), (a_low, .inl (cL, 13, .inr (.inl g_low))), (a_high, .inl (cL, 13, .inr (.inl g_high)))] := hD
      have hl : lv_has ls 7 [(0, .ref a_this), (5, .int x5), (6, .int x6)] := hl
      have hf : bX5_seek_63 x5 g_whole g_added g_numbers x6 g_bestPart g_bestSums g_bestSize g_low g_high = some t := hf
      unfold bX5_seek_63 at hf
      refine lv_iload hx hb dX5_seek_63 (lv_at hl 2 rfl) ?_
      refine lv_iconst (v := 1) hx hb dX5_seek_65 (by decide) ?_
      refine lv_iload hx hb dX5_seek_66 (lv_at hl 1 rfl) ?_
      refine lv_ishl hx hb dX5_seek_68 ?_
      refine lv_icmp_ge (tgt := 112) hx hb dX5_seek_69 (by decide) (fun c1 => ?_) (fun c1 => ?_)
      · have hf := br_pos c1 hf
        cases hf
        have hE : (g_whole, g_added, g_bestPart, g_bestSums, g_bestSize, g_numbers, g_low, g_high) = (v_whole, v_added, v_bestPart, v_bestSums, v_bestSize, v_numbers, v_low, v_high) := hF
        simp only [Prod.mk.injEq] at hE
        obtain ⟨rfl, rfl, rfl, rfl, rfl, rfl, rfl, rfl⟩ := hE
        exact rtV hx hb hr hlk hP hD hS dX5_seek_112
      · have hf := br_neg c1 hf
        refine lv_aload_n hx hb dX5_seek_72 rfl (lv_at hl 0 rfl) ?_
        refine lv_iload hx hb dX5_seek_73 (lv_at hl 2 rfl) ?_
        obtain ⟨u2, hu2, hf⟩ := bd_some hf
        refine caSI (rest := [.ref a_this]) (As := [.int x6]) (wr := [(a_this, .inr (5, [.ref a_numbers, .ref a_low, .ref a_high, .long g_whole, .long g_added, .int g_bestPart, .int g_bestSums, .int g_bestSize])), (a_numbers, .inl (cI, 12, .inl g_numbers)), (a_low, .inl (cL, 13, .inr (.inl g_low))), (a_high, .inl (cL, 13, .inr (.inl g_high)))]) (wo := [(a_this, .inr (5, [.ref a_numbers, .ref a_low, .ref a_high, .long g_whole, .long g_added, .int g_bestPart, .int g_bestSums, .int g_bestSize])), (a_numbers, .inl (cI, 12, .inl g_numbers)), (a_low, .inl (cL, 13, .inr (.inl g_low))), (a_high, .inl (cL, 13, .inr (.inl g_high)))]) ⟨hx, hb, hml, hown, hts⟩ hN hP hD hS hA (cJ6_numberOfTrailingZeros_0f7a4_ct l D cI cL cC cZ x6 u2 hu2) z1 [] [0, 1, 2, 3] [0, 1, 2, 3] rfl (by decide) rfl (by decide) (by decide) rfl (by decide) rfl hl.1 rfl (Nat.le_of_ble_eq_true rfl) dX5_seek_75 ⟨Nat.zero_le _, Nat.zero_le _⟩ (fun H locs hP hD hS => ?_)
        obtain ⟨u3, hu3, hf⟩ := bd_some hf
        refine caVV (rest := []) (As := [.int u2]) (wr := []) (wo := [(a_this, .inr (5, [.ref a_numbers, .ref a_low, .ref a_high, .long g_whole, .long g_added, .int g_bestPart, .int g_bestSums, .int g_bestSize])), (a_numbers, .inl (cI, 12, .inl g_numbers)), (a_low, .inl (cL, 13, .inr (.inl u3.1))), (a_high, .inl (cL, 13, .inr (.inl u3.2)))]) ⟨hx, hb, hml, hown, hts⟩ hN hP hD hS hA (cX5_addUp_ct l D cI cL cC cZ a_this a_numbers a_low a_high g_whole g_added g_bestPart g_bestSums g_bestSize g_numbers g_low g_high u2 u3.1 u3.2 hu3) z2 0 5 rfl rfl [0, 1, 2, 3] [] [0, 1, 2, 3] rfl (by decide) rfl (by decide) (by decide) rfl (by decide) rfl hl.1 rfl (Nat.le_of_ble_eq_true rfl) dX5_seek_78 ⟨Nat.zero_le _, Nat.zero_le _⟩ (fun H locs hP hD hS => ?_)
        refine lv_aload_n hx hb dX5_seek_81 rfl (lv_at hl 0 rfl) ?_
        refine lv_iload hx hb dX5_seek_82 (lv_at hl 2 rfl) ?_
        refine lv_aload_n hx hb dX5_seek_84 rfl (lv_at hl 0 rfl) ?_
        refine va_get (D := D) (ci := 5) (v := .ref a_low) (C := RX5) (T := TX5) (N := 8) hx hb hts z3 hown hN.1 hP 0 rfl rfl 1 (by decide) z4 (fun _ h9 => h9) rfl dX5_seek_85 ?_
        refine lv_iconst (v := 0) hx hb dX5_seek_88 (by decide) ?_
        obtain ⟨c4, hf⟩ := gd_some hf
        refine va_lald hx hb hN.1 hP 2 1 rfl rfl (ix_in c4) dX5_seek_89 ?_
        obtain ⟨u5, hu5, hf⟩ := bd_some hf
        refine caSI (rest := [.int x6, .ref a_this]) (As := [.long (u3.1 (0 : Int32).toNatClampNeg)]) (wr := [(a_this, .inr (5, [.ref a_numbers, .ref a_low, .ref a_high, .long g_whole, .long g_added, .int g_bestPart, .int g_bestSums, .int g_bestSize])), (a_numbers, .inl (cI, 12, .inl g_numbers)), (a_low, .inl (cL, 13, .inr (.inl u3.1))), (a_high, .inl (cL, 13, .inr (.inl u3.2)))]) (wo := [(a_this, .inr (5, [.ref a_numbers, .ref a_low, .ref a_high, .long g_whole, .long g_added, .int g_bestPart, .int g_bestSums, .int g_bestSize])), (a_numbers, .inl (cI, 12, .inl g_numbers)), (a_low, .inl (cL, 13, .inr (.inl u3.1))), (a_high, .inl (cL, 13, .inr (.inl u3.2)))]) ⟨hx, hb, hml, hown, hts⟩ hN hP hD hS hA (cJ13_bitCount_95d88_ct l D cI cL cC cZ (u3.1 (0 : Int32).toNatClampNeg) u5 hu5) z5 [] [0, 1, 2, 3] [0, 1, 2, 3] rfl (by decide) rfl (by decide) (by decide) rfl (by decide) rfl hl.1 rfl (Nat.le_of_ble_eq_true rfl) dX5_seek_90 ⟨Nat.zero_le _, Nat.zero_le _⟩ (fun H locs hP hD hS => ?_)
        refine lv_aload_n hx hb dX5_seek_93 rfl (lv_at hl 0 rfl) ?_
        refine va_get (D := D) (ci := 5) (v := .ref a_high) (C := RX5) (T := TX5) (N := 8) hx hb hts z3 hown hN.1 hP 0 rfl rfl 2 (by decide) z6 (fun _ h9 => h9) rfl dX5_seek_94 ?_
        refine lv_iconst (v := 0) hx hb dX5_seek_97 (by decide) ?_
        obtain ⟨c6, hf⟩ := gd_some hf
        refine va_lald hx hb hN.1 hP 3 1 rfl rfl (ix_in c6) dX5_seek_98 ?_
        obtain ⟨u7, hu7, hf⟩ := bd_some hf
        refine caSI (rest := [.int u5, .int x6, .ref a_this]) (As := [.long (u3.2 (0 : Int32).toNatClampNeg)]) (wr := [(a_this, .inr (5, [.ref a_numbers, .ref a_low, .ref a_high, .long g_whole, .long g_added, .int g_bestPart, .int g_bestSums, .int g_bestSize])), (a_numbers, .inl (cI, 12, .inl g_numbers)), (a_low, .inl (cL, 13, .inr (.inl u3.1))), (a_high, .inl (cL, 13, .inr (.inl u3.2)))]) (wo := [(a_this, .inr (5, [.ref a_numbers, .ref a_low, .ref a_high, .long g_whole, .long g_added, .int g_bestPart, .int g_bestSums, .int g_bestSize])), (a_numbers, .inl (cI, 12, .inl g_numbers)), (a_low, .inl (cL, 13, .inr (.inl u3.1))), (a_high, .inl (cL, 13, .inr (.inl u3.2)))]) ⟨hx, hb, hml, hown, hts⟩ hN hP hD hS hA (cJ13_bitCount_95d88_ct l D cI cL cC cZ (u3.2 (0 : Int32).toNatClampNeg) u7 hu7) z5 [] [0, 1, 2, 3] [0, 1, 2, 3] rfl (by decide) rfl (by decide) (by decide) rfl (by decide) rfl hl.1 rfl (Nat.le_of_ble_eq_true rfl) dX5_seek_99 ⟨Nat.zero_le _, Nat.zero_le _⟩ (fun H locs hP hD hS => ?_)
        refine lv_iadd hx hb dX5_seek_102 ?_
        obtain ⟨u8, hu8, hf⟩ := bd_some hf
        refine caVV (rest := []) (As := [.int x6, .int (u5 + u7)]) (wr := [(a_numbers, .inl (cI, 12, .inl g_numbers)), (a_low, .inl (cL, 13, .inr (.inl u3.1))), (a_high, .inl (cL, 13, .inr (.inl u3.2)))]) (wo := [(a_this, .inr (5, [.ref a_numbers, .ref a_low, .ref a_high, .long g_whole, .long g_added, .int u8.1, .int u8.2.1, .int u8.2.2])), (a_numbers, .inl (cI, 12, .inl g_numbers)), (a_low, .inl (cL, 13, .inr (.inl u3.1))), (a_high, .inl (cL, 13, .inr (.inl u3.2)))]) ⟨hx, hb, hml, hown, hts⟩ hN hP hD hS hA (cX5_judge_ct l D cI cL cC cZ a_this a_numbers a_low a_high g_whole g_added g_bestPart g_bestSums g_bestSize x6 (u5 + u7) u8.1 u8.2.1 u8.2.2 hu8) z7 0 5 rfl rfl [0] [1, 2, 3] [3, 0, 1, 2] rfl (by decide) rfl (by decide) (by decide) rfl (by decide) rfl hl.1 rfl (Nat.le_of_ble_eq_true rfl) dX5_seek_103 ⟨Nat.zero_le _, Nat.zero_le _⟩ (fun H locs hP hD hS => ?_)
        obtain ⟨y9, ey9⟩ : ∃ z : Int32, z = x6 + (1 : Int32) := ⟨_, rfl⟩
        have hf := lt_some hf y9 ey9
        refine lv_iinc (v := y9) (lv' := [(6, .int y9), (0, .ref a_this), (5, .int x5)]) hx hb dX5_seek_106 hl (k := 2) rfl (by rw [ey9]; rfl) (by decide) rfl (fun ls hl => ?_)
        refine lv_goto (tgt := 63) hx hb dX5_seek_109 (by decide) ?_
        cases hf
        exact ((congrFun eF63 _).mp hF) H locs ls hP hD hS (lv_sub hl [1, 2, 0] rfl)
    intro x6 g_bestPart g_bestSums g_bestSize g_low g_high t H locs ls hf hF hP hD hS hl
    exact ((congrFun eF63 _).mp (key ((x6, g_bestPart, g_bestSums, g_bestSize, g_low, g_high)) t hf hF)) H locs ls hP hD hS hl
  have w19 : ∀ (x1 : Int64) (x3 : Int64) (g_whole : Int64) (g_added : Int64) (g_bestPart : Int32) (g_bestSums : Int32) (g_bestSize : Int32) (g_numbers : Nat → Int32) (g_low : Nat → Int64) (g_high : Nat → Int64) (H : Heap) (locs : List Loc) (ls : Array Slot), bX5_seek_19 x1 x3 g_whole g_added g_bestPart g_bestSums g_bestSize g_numbers g_low g_high = some ((v_whole, v_added, v_bestPart, v_bestSums, v_bestSize, v_numbers, v_low, v_high)) → va_P D vwCl [(a_this, .inr (5, [.ref a_numbers, .ref a_low, .ref a_high, .long g_whole, .long g_added, .int g_bestPart, .int g_bestSums, .int g_bestSize])), (a_numbers, .inl (cI, 12, .inl g_numbers)), (a_low, .inl (cL, 13, .inr (.inl g_low))), (a_high, .inl (cL, 13, .inr (.inl g_high)))] H → va_D A [(a_this, .inr (5, [.ref a_numbers, .ref a_low, .ref a_high, .long g_whole, .long g_added, .int g_bestPart, .int g_bestSums, .int g_bestSize])), (a_numbers, .inl (cI, 12, .inl g_numbers)), (a_low, .inl (cL, 13, .inr (.inl g_low))), (a_high, .inl (cL, 13, .inr (.inl g_high)))] → va_S A s.heap H locs → lv_has ls 7 [(0, .ref a_this), (1, .long x1), (3, .long x3)] → W p l e rmX5_seek s m ([.ref a_this, .long q1, .long q3] : List Value).toArray below meth c H locs 0 0 (MQ below (cQv D A [(a_this, .inr (5, [.ref a_numbers, .ref a_low, .ref a_high, .long v_whole, .long v_added, .int v_bestPart, .int v_bestSums, .int v_bestSize])), (a_numbers, .inl (cI, 12, .inl v_numbers)), (a_low, .inl (cL, 13, .inr (.inl v_low))), (a_high, .inl (cL, 13, .inr (.inl v_high)))]) ([.ref a_this, .long q1, .long q3] : List Value).toArray s 0 0 A) (F0 m 19 ls []) := by
    intro x1 x3 g_whole g_added g_bestPart g_bestSums g_bestSize g_numbers g_low g_high H locs ls hf hP hD hS hl
    unfold bX5_seek_19 at hf
    refine lv_aload_n hx hb dX5_seek_19 rfl (lv_at hl 0 rfl) ?_
    refine lv_lload_n hx hb dX5_seek_20 rfl (lv_at hl 1 rfl) ?_
    refine va_put (D := D) (ci := 5) (v := .long x1) (ty := .long) (C := RX5) (T := TX5) (N := 8) hx hb hts z3 tyX5 tyX5_ok nmX5 hown hN.1 hP hD hS 0 rfl rfl 3 (by decide) z8 (fun _ h9 => h9) rfl (by decide +kernel) rfl rfl (Nat.le_of_ble_eq_true rfl) dX5_seek_21 (fun H locs hP hD hS => ?_)
    have hP : va_P D vwCl [(a_this, .inr (5, [.ref a_numbers, .ref a_low, .ref a_high, .long x1, .long g_added, .int g_bestPart, .int g_bestSums, .int g_bestSize])), (a_numbers, .inl (cI, 12, .inl g_numbers)), (a_low, .inl (cL, 13, .inr (.inl g_low))), (a_high, .inl (cL, 13, .inr (.inl g_high)))] H := hP
    have hD : va_D A [(a_this, .inr (5, [.ref a_numbers, .ref a_low, .ref a_high, .long x1, .long g_added, .int g_bestPart, .int g_bestSums, .int g_bestSize])), (a_numbers, .inl (cI, 12, .inl g_numbers)), (a_low, .inl (cL, 13, .inr (.inl g_low))), (a_high, .inl (cL, 13, .inr (.inl g_high)))] := hD
    refine lv_aload_n hx hb dX5_seek_24 rfl (lv_at hl 0 rfl) ?_
    refine lv_lload_n hx hb dX5_seek_25 rfl (lv_at hl 2 rfl) ?_
    refine va_put (D := D) (ci := 5) (v := .long x3) (ty := .long) (C := RX5) (T := TX5) (N := 8) hx hb hts z3 tyX5 tyX5_ok nmX5 hown hN.1 hP hD hS 0 rfl rfl 4 (by decide) z9 (fun _ h9 => h9) rfl (by decide +kernel) rfl rfl (Nat.le_of_ble_eq_true rfl) dX5_seek_26 (fun H locs hP hD hS => ?_)
    have hP : va_P D vwCl [(a_this, .inr (5, [.ref a_numbers, .ref a_low, .ref a_high, .long x1, .long x3, .int g_bestPart, .int g_bestSums, .int g_bestSize])), (a_numbers, .inl (cI, 12, .inl g_numbers)), (a_low, .inl (cL, 13, .inr (.inl g_low))), (a_high, .inl (cL, 13, .inr (.inl g_high)))] H := hP
    have hD : va_D A [(a_this, .inr (5, [.ref a_numbers, .ref a_low, .ref a_high, .long x1, .long x3, .int g_bestPart, .int g_bestSums, .int g_bestSize])), (a_numbers, .inl (cI, 12, .inl g_numbers)), (a_low, .inl (cL, 13, .inr (.inl g_low))), (a_high, .inl (cL, 13, .inr (.inl g_high)))] := hD
    refine lv_aload_n hx hb dX5_seek_29 rfl (lv_at hl 0 rfl) ?_
    refine lv_iconst (v := 0) hx hb dX5_seek_30 (by decide) ?_
    refine va_put (D := D) (ci := 5) (v := .int (0 : Int32)) (ty := .int) (C := RX5) (T := TX5) (N := 8) hx hb hts z3 tyX5 tyX5_ok nmX5 hown hN.1 hP hD hS 0 rfl rfl 5 (by decide) z10 (fun _ h9 => h9) rfl (by decide +kernel) rfl rfl (Nat.le_of_ble_eq_true rfl) dX5_seek_31 (fun H locs hP hD hS => ?_)
    have hP : va_P D vwCl [(a_this, .inr (5, [.ref a_numbers, .ref a_low, .ref a_high, .long x1, .long x3, .int (0 : Int32), .int g_bestSums, .int g_bestSize])), (a_numbers, .inl (cI, 12, .inl g_numbers)), (a_low, .inl (cL, 13, .inr (.inl g_low))), (a_high, .inl (cL, 13, .inr (.inl g_high)))] H := hP
    have hD : va_D A [(a_this, .inr (5, [.ref a_numbers, .ref a_low, .ref a_high, .long x1, .long x3, .int (0 : Int32), .int g_bestSums, .int g_bestSize])), (a_numbers, .inl (cI, 12, .inl g_numbers)), (a_low, .inl (cL, 13, .inr (.inl g_low))), (a_high, .inl (cL, 13, .inr (.inl g_high)))] := hD
    refine lv_aload_n hx hb dX5_seek_34 rfl (lv_at hl 0 rfl) ?_
    refine va_get (D := D) (ci := 5) (v := .ref a_low) (C := RX5) (T := TX5) (N := 8) hx hb hts z3 hown hN.1 hP 0 rfl rfl 1 (by decide) z4 (fun _ h9 => h9) rfl dX5_seek_35 ?_
    refine lv_lconst (v := 0) hx hb dX5_seek_38 (by decide) ?_
    obtain ⟨u10, hu10, hf⟩ := bd_some hf
    refine caSV (rest := []) (As := [.ref a_low, .long (0 : Int64)]) (wr := [(a_this, .inr (5, [.ref a_numbers, .ref a_low, .ref a_high, .long x1, .long x3, .int (0 : Int32), .int g_bestSums, .int g_bestSize])), (a_numbers, .inl (cI, 12, .inl g_numbers)), (a_high, .inl (cL, 13, .inr (.inl g_high)))]) (wo := [(a_this, .inr (5, [.ref a_numbers, .ref a_low, .ref a_high, .long x1, .long x3, .int (0 : Int32), .int g_bestSums, .int g_bestSize])), (a_numbers, .inl (cI, 12, .inl g_numbers)), (a_low, .inl (cL, 13, .inr (.inl u10))), (a_high, .inl (cL, 13, .inr (.inl g_high)))]) ⟨hx, hb, hml, hown, hts⟩ hN hP hD hS hA (cJ7_fill_d0a16_ct l D cI cL cC cZ a_low 13 g_low (0 : Int64) u10 hu10) z11 [2] [0, 1, 3] [0, 1, 3, 2] rfl (by decide) rfl (by decide) (by decide) rfl (by decide) rfl hl.1 rfl (Nat.le_of_ble_eq_true rfl) dX5_seek_39 ⟨Nat.zero_le _, Nat.zero_le _⟩ (fun H locs hP hD hS => ?_)
    refine lv_aload_n hx hb dX5_seek_42 rfl (lv_at hl 0 rfl) ?_
    refine va_get (D := D) (ci := 5) (v := .ref a_high) (C := RX5) (T := TX5) (N := 8) hx hb hts z3 hown hN.1 hP 0 rfl rfl 2 (by decide) z6 (fun _ h9 => h9) rfl dX5_seek_43 ?_
    refine lv_lconst (v := 0) hx hb dX5_seek_46 (by decide) ?_
    obtain ⟨u11, hu11, hf⟩ := bd_some hf
    refine caSV (rest := []) (As := [.ref a_high, .long (0 : Int64)]) (wr := [(a_this, .inr (5, [.ref a_numbers, .ref a_low, .ref a_high, .long x1, .long x3, .int (0 : Int32), .int g_bestSums, .int g_bestSize])), (a_numbers, .inl (cI, 12, .inl g_numbers)), (a_low, .inl (cL, 13, .inr (.inl u10)))]) (wo := [(a_this, .inr (5, [.ref a_numbers, .ref a_low, .ref a_high, .long x1, .long x3, .int (0 : Int32), .int g_bestSums, .int g_bestSize])), (a_numbers, .inl (cI, 12, .inl g_numbers)), (a_low, .inl (cL, 13, .inr (.inl u10))), (a_high, .inl (cL, 13, .inr (.inl u11)))]) ⟨hx, hb, hml, hown, hts⟩ hN hP hD hS hA (cJ7_fill_d0a16_ct l D cI cL cC cZ a_high 13 g_high (0 : Int64) u11 hu11) z11 [3] [0, 1, 2] [0, 1, 2, 3] rfl (by decide) rfl (by decide) (by decide) rfl (by decide) rfl hl.1 rfl (Nat.le_of_ble_eq_true rfl) dX5_seek_47 ⟨Nat.zero_le _, Nat.zero_le _⟩ (fun H locs hP hD hS => ?_)
    refine lv_lload_n hx hb dX5_seek_50 rfl (lv_at hl 1 rfl) ?_
    refine lv_aload_n hx hb dX5_seek_51 rfl (lv_at hl 0 rfl) ?_
    refine va_get (D := D) (ci := 5) (v := .ref a_numbers) (C := RX5) (T := TX5) (N := 8) hx hb hts z3 hown hN.1 hP 0 rfl rfl 0 (by decide) z12 (fun _ h9 => h9) rfl dX5_seek_52 ?_
    obtain ⟨u12, hu12, hf⟩ := bd_some hf
    refine caNI (rest := []) (As := [.long x1, .ref a_numbers]) (wr := [(a_this, .inr (5, [.ref a_numbers, .ref a_low, .ref a_high, .long x1, .long x3, .int (0 : Int32), .int g_bestSums, .int g_bestSize])), (a_low, .inl (cL, 13, .inr (.inl u10))), (a_high, .inl (cL, 13, .inr (.inl u11)))]) (wo := [(a_this, .inr (5, [.ref a_numbers, .ref a_low, .ref a_high, .long x1, .long x3, .int (0 : Int32), .int g_bestSums, .int g_bestSize])), (a_numbers, .inl (cI, 12, .inl u12.2)), (a_low, .inl (cL, 13, .inr (.inl u10))), (a_high, .inl (cL, 13, .inr (.inl u11)))]) ⟨hx, hb, hml, hown, hts⟩ hN hP hD hS hA (cX7_listNumbers_ct l D cI cL cC cZ a_numbers 12 g_numbers x1 u12.1 u12.2 hu12) ⟨z13, z14, trivial⟩ [1] [0, 2, 3] [0, 3, 1, 2] rfl (by decide) rfl (by decide) (by decide) rfl (by decide) rfl hl.1 rfl (Nat.le_of_ble_eq_true rfl) dX5_seek_55 ⟨Nat.zero_le _, Nat.zero_le _⟩ (fun H locs hP hD hS => ?_)
    refine lv_istore (lv' := [(5, .int u12.1), (0, .ref a_this), (1, .long x1), (3, .long x3)]) hx hb dX5_seek_58 hl (by decide) rfl (fun ls hl => ?_)
    refine lv_iconst (v := 1) hx hb dX5_seek_60 (by decide) ?_
    refine lv_istore (lv' := [(6, .int (1 : Int32)), (5, .int u12.1), (0, .ref a_this), (1, .long x1), (3, .long x3)]) hx hb dX5_seek_61 hl (by decide) rfl (fun ls hl => ?_)
    exact w63 u12.1 x1 x3 u12.2 (1 : Int32) (0 : Int32) g_bestSums g_bestSize u10 u11 (v_whole, v_added, v_bestPart, v_bestSums, v_bestSize, v_numbers, v_low, v_high) H locs ls hf rfl hP hD hS (lv_sub hl [2, 1, 0] rfl)
  unfold fX5_seek at hf
  obtain ⟨H, eH⟩ : ∃ z, z = s.heap := ⟨_, rfl⟩
  obtain ⟨locs, eL⟩ : ∃ z : List Loc, z = [] := ⟨_, rfl⟩
  have hP : va_P D vwCl [(a_this, .inr (5, [.ref a_numbers, .ref a_low, .ref a_high, .long g_whole, .long g_added, .int g_bestPart, .int g_bestSums, .int g_bestSize])), (a_numbers, .inl (cI, 12, .inl g_numbers)), (a_low, .inl (cL, 13, .inr (.inl g_low))), (a_high, .inl (cL, 13, .inr (.inl g_high)))] H := by rw [eH]; exact hP
  have hS : va_S A s.heap H locs := by rw [eH, eL]; exact hS
  suffices hG : W p l e rmX5_seek s m ([.ref a_this, .long q1, .long q3] : List Value).toArray below meth c H locs 0 0 (MQ below (cQv D A [(a_this, .inr (5, [.ref a_numbers, .ref a_low, .ref a_high, .long v_whole, .long v_added, .int v_bestPart, .int v_bestSums, .int v_bestSize])), (a_numbers, .inl (cI, 12, .inl v_numbers)), (a_low, .inl (cL, 13, .inr (.inl v_low))), (a_high, .inl (cL, 13, .inr (.inl v_high)))]) ([.ref a_this, .long q1, .long q3] : List Value).toArray s 0 0 A) (F0 m 0 ls []) by rw [eH, eL] at hG; exact hG
  refine lv_lload_n hx hb dX5_seek_0 rfl (lv_at hl 1 rfl) ?_
  refine lv_aload_n hx hb dX5_seek_1 rfl (lv_at hl 0 rfl) ?_
  refine va_get (D := D) (ci := 5) (v := .long g_whole) (C := RX5) (T := TX5) (N := 8) hx hb hts z3 hown hN.1 hP 0 rfl rfl 3 (by decide) z8 (fun _ h9 => h9) rfl dX5_seek_2 ?_
  refine W.lcmp hx hb dX5_seek_5 ?_
  refine lv_if_ne (tgt := 19) hx hb dX5_seek_6 (by decide) (fun c13 => ?_) (fun c13 => ?_)
  · have hf := br_neg c13 hf
    exact w19 q1 q3 g_whole g_added g_bestPart g_bestSums g_bestSize g_numbers g_low g_high H locs ls hf hP hD hS (lv_sub hl [0, 1, 2] rfl)
  · have hf := br_pos c13 hf
    refine lv_lload_n hx hb dX5_seek_9 rfl (lv_at hl 2 rfl) ?_
    refine lv_aload_n hx hb dX5_seek_10 rfl (lv_at hl 0 rfl) ?_
    refine va_get (D := D) (ci := 5) (v := .long g_added) (C := RX5) (T := TX5) (N := 8) hx hb hts z3 hown hN.1 hP 0 rfl rfl 4 (by decide) z9 (fun _ h9 => h9) rfl dX5_seek_11 ?_
    refine W.lcmp hx hb dX5_seek_14 ?_
    refine lv_if_ne (tgt := 19) hx hb dX5_seek_15 (by decide) (fun c14 => ?_) (fun c14 => ?_)
    · have hf := br_neg c14 hf
      exact w19 q1 q3 g_whole g_added g_bestPart g_bestSums g_bestSize g_numbers g_low g_high H locs ls hf hP hD hS (lv_sub hl [0, 1, 2] rfl)
    · have hf := br_pos c14 hf
      have hE : (g_whole, g_added, g_bestPart, g_bestSums, g_bestSize, g_numbers, g_low, g_high) = (v_whole, v_added, v_bestPart, v_bestSums, v_bestSize, v_numbers, v_low, v_high) := Option.some.inj hf
      simp only [Prod.mk.injEq] at hE
      obtain ⟨rfl, rfl, rfl, rfl, rfl, rfl, rfl, rfl⟩ := hE
      exact rtV hx hb hr hlk hP hD hS dX5_seek_18
abbrev rmX5_answer : Room := { frames := 1, cells := 0, slots := 0, locals := 25 }
noncomputable def fX5_answer (q1 : Int32) (g_bestPart : Int32) (g_bestSums : Int32) (g_bestSize : Int32) : Option (Int32) := bd (fX7_greatestDivisor g_bestSums g_bestSize) (fun u1 => br (q1 = (2 : Int32)) (some (g_bestPart)) (br ((1 : Int32) ≤ u1) (br (q1 = 0) (gd (¬ u1 = 0) (lt_ (g_bestSums / u1) (fun y8 => some (y8)))) (gd (¬ u1 = 0) (lt_ (g_bestSize / u1) (fun y6 => some (y6))))) (some (g_bestPart))))
set_option maxHeartbeats 4000000 in
set_option maxRecDepth 100000 in
theorem cX5_answer_ct (l : Launch) (D : va_G) (cI cL cC cZ : ClassId) (a_this a_numbers a_low a_high : Nat) (g_whole : Int64) (g_added : Int64) (g_bestPart : Int32) (g_bestSums : Int32) (g_bestSize : Int32) (q1 : Int32) (r0 : Int32) (hf : fX5_answer q1 g_bestPart g_bestSums g_bestSize = some r0) : CtI l yX5_answer wsX5_answer rmX5_answer D (tyz cI cL cC cZ) [.ref a_this, .int q1] [(a_this, .inr (5, [.ref a_numbers, .ref a_low, .ref a_high, .long g_whole, .long g_added, .int g_bestPart, .int g_bestSums, .int g_bestSize]))] [(a_this, .inr (5, [.ref a_numbers, .ref a_low, .ref a_high, .long g_whole, .long g_added, .int g_bestPart, .int g_bestSums, .int g_bestSize]))] r0 := by
  refine CtI.make (cc := cX5_answer) (maxL := 3) (ty := .int) (by decide) rfl (Nat.le_of_ble_eq_true rfl) ?_
  intro p e s m below meth c A ls C0 hN hA hP hD hl
  obtain ⟨hx, hb, hr, hml, hown, hts, hlk⟩ := id C0
  have hown : s.vm.findClass RX5 = some m.cls := hown
  have hS : va_S A s.heap s.heap [] := va_S.rf
  have hP : va_P D vwCl [(a_this, .inr (5, [.ref a_numbers, .ref a_low, .ref a_high, .long g_whole, .long g_added, .int g_bestPart, .int g_bestSums, .int g_bestSize]))] s.heap := hP
  have hD : va_D A [(a_this, .inr (5, [.ref a_numbers, .ref a_low, .ref a_high, .long g_whole, .long g_added, .int g_bestPart, .int g_bestSums, .int g_bestSize]))] := hD
  have hl : lv_has ls 3 [(0, .ref a_this), (1, .int q1)] := hl
  have z1 : ∀ w ∈ u_ws RX5 TX5 8, w ∈ wsX5_answer := by decide +kernel
  have z2 := hts (.fieldLink RX5 74 "LittleSums$SwellingSearch" "bestSums" "I") (by decide +kernel)
  have z3 := hts (.fieldLink RX5 71 "LittleSums$SwellingSearch" "bestSize" "I") (by decide +kernel)
  have z4 := va_cnB (R := rmX5_answer) (rm := rmX7_greatestDivisor) (mc := 0) (ms := 0) 2 hts ggX5_answer_X7_greatestDivisor rfl rfl rfl (hN.2 (RX5, 81, yX7_greatestDivisor, "LittleSums") (by decide +kernel)) (hts (.initialized RX7) (by decide +kernel)) (by decide +kernel) ⟨Nat.le_of_ble_eq_true rfl, Nat.le_of_ble_eq_true rfl⟩
  have z5 := hts (.static yX7_greatestDivisor) (by decide +kernel)
  have z6 := hts (.fieldLink RX5 29 "LittleSums$SwellingSearch" "bestPart" "I") (by decide +kernel)
  unfold fX5_answer at hf
  obtain ⟨H, eH⟩ : ∃ z, z = s.heap := ⟨_, rfl⟩
  obtain ⟨locs, eL⟩ : ∃ z : List Loc, z = [] := ⟨_, rfl⟩
  have hP : va_P D vwCl [(a_this, .inr (5, [.ref a_numbers, .ref a_low, .ref a_high, .long g_whole, .long g_added, .int g_bestPart, .int g_bestSums, .int g_bestSize]))] H := by rw [eH]; exact hP
  have hS : va_S A s.heap H locs := by rw [eH, eL]; exact hS
  suffices hG : W p l e rmX5_answer s m ([.ref a_this, .int q1] : List Value).toArray below meth c H locs 0 0 (MQ below (cQi D r0 A [(a_this, .inr (5, [.ref a_numbers, .ref a_low, .ref a_high, .long g_whole, .long g_added, .int g_bestPart, .int g_bestSums, .int g_bestSize]))]) ([.ref a_this, .int q1] : List Value).toArray s 0 0 A) (F0 m 0 ls []) by rw [eH, eL] at hG; exact hG
  refine lv_aload_n hx hb dX5_answer_0 rfl (lv_at hl 0 rfl) ?_
  refine va_get (D := D) (ci := 5) (v := .int g_bestSums) (C := RX5) (T := TX5) (N := 8) hx hb hts z1 hown hN.1 hP 0 rfl rfl 6 (by decide) z2 (fun _ h9 => h9) rfl dX5_answer_1 ?_
  refine lv_aload_n hx hb dX5_answer_4 rfl (lv_at hl 0 rfl) ?_
  refine va_get (D := D) (ci := 5) (v := .int g_bestSize) (C := RX5) (T := TX5) (N := 8) hx hb hts z1 hown hN.1 hP 0 rfl rfl 7 (by decide) z3 (fun _ h9 => h9) rfl dX5_answer_5 ?_
  obtain ⟨u1, hu1, hf⟩ := bd_some hf
  refine caNI (rest := []) (As := [.int g_bestSums, .int g_bestSize]) (wr := [(a_this, .inr (5, [.ref a_numbers, .ref a_low, .ref a_high, .long g_whole, .long g_added, .int g_bestPart, .int g_bestSums, .int g_bestSize]))]) (wo := [(a_this, .inr (5, [.ref a_numbers, .ref a_low, .ref a_high, .long g_whole, .long g_added, .int g_bestPart, .int g_bestSums, .int g_bestSize]))]) ⟨hx, hb, hml, hown, hts⟩ hN hP hD hS hA (cX7_greatestDivisor_ct l D cI cL cC cZ g_bestSums g_bestSize u1 hu1) ⟨z4, z5, trivial⟩ [] [0] [0] rfl (by decide) rfl (by decide) (by decide) rfl (by decide) rfl hl.1 rfl (Nat.le_of_ble_eq_true rfl) dX5_answer_8 ⟨Nat.zero_le _, Nat.zero_le _⟩ (fun H locs hP hD hS => ?_)
  refine lv_istore_n (lv' := [(2, .int u1), (0, .ref a_this), (1, .int q1)]) hx hb dX5_answer_11 rfl hl (by decide) rfl (fun ls hl => ?_)
  refine lv_iload_n hx hb dX5_answer_12 rfl (lv_at hl 2 rfl) ?_
  refine lv_iconst (v := 2) hx hb dX5_answer_13 (by decide) ?_
  refine lv_icmp_eq (tgt := 22) hx hb dX5_answer_14 (by decide) (fun c2 => ?_) (fun c2 => ?_)
  · have hf := br_pos c2 hf
    refine lv_aload_n hx hb dX5_answer_22 rfl (lv_at hl 1 rfl) ?_
    refine va_get (D := D) (ci := 5) (v := .int g_bestPart) (C := RX5) (T := TX5) (N := 8) hx hb hts z1 hown hN.1 hP 0 rfl rfl 5 (by decide) z6 (fun _ h9 => h9) rfl dX5_answer_23 ?_
    have hE : g_bestPart = r0 := Option.some.inj hf
    subst hE
    exact rtI hx hb hr hlk hP hD hS dX5_answer_26
  · have hf := br_neg c2 hf
    refine lv_iload_n hx hb dX5_answer_17 rfl (lv_at hl 0 rfl) ?_
    refine lv_iconst (v := 1) hx hb dX5_answer_18 (by decide) ?_
    refine lv_icmp_ge (tgt := 27) hx hb dX5_answer_19 (by decide) (fun c3 => ?_) (fun c3 => ?_)
    · have hf := br_pos c3 hf
      refine lv_iload_n hx hb dX5_answer_27 rfl (lv_at hl 2 rfl) ?_
      refine lv_if_ne (tgt := 40) hx hb dX5_answer_28 (by decide) (fun c4 => ?_) (fun c4 => ?_)
      · have hf := br_neg c4 hf
        refine lv_aload_n hx hb dX5_answer_40 rfl (lv_at hl 1 rfl) ?_
        refine va_get (D := D) (ci := 5) (v := .int g_bestSize) (C := RX5) (T := TX5) (N := 8) hx hb hts z1 hown hN.1 hP 0 rfl rfl 7 (by decide) z3 (fun _ h9 => h9) rfl dX5_answer_41 ?_
        refine lv_iload_n hx hb dX5_answer_44 rfl (lv_at hl 0 rfl) ?_
        obtain ⟨c5, hf⟩ := gd_some hf
        refine lv_idiv hx hb dX5_answer_45 c5 ?_
        refine lv_topi (fun y6 ey6 => ?_)
        have hf := lt_some hf y6 ey6
        have hE : y6 = r0 := Option.some.inj hf
        subst hE
        exact rtI hx hb hr hlk hP hD hS dX5_answer_46
      · have hf := br_pos c4 hf
        refine lv_aload_n hx hb dX5_answer_31 rfl (lv_at hl 1 rfl) ?_
        refine va_get (D := D) (ci := 5) (v := .int g_bestSums) (C := RX5) (T := TX5) (N := 8) hx hb hts z1 hown hN.1 hP 0 rfl rfl 6 (by decide) z2 (fun _ h9 => h9) rfl dX5_answer_32 ?_
        refine lv_iload_n hx hb dX5_answer_35 rfl (lv_at hl 0 rfl) ?_
        obtain ⟨c7, hf⟩ := gd_some hf
        refine lv_idiv hx hb dX5_answer_36 c7 ?_
        refine lv_topi (fun y8 ey8 => ?_)
        have hf := lt_some hf y8 ey8
        refine lv_goto (tgt := 46) hx hb dX5_answer_37 (by decide) ?_
        have hE : y8 = r0 := Option.some.inj hf
        subst hE
        exact rtI hx hb hr hlk hP hD hS dX5_answer_46
    · have hf := br_neg c3 hf
      refine lv_aload_n hx hb dX5_answer_22 rfl (lv_at hl 1 rfl) ?_
      refine va_get (D := D) (ci := 5) (v := .int g_bestPart) (C := RX5) (T := TX5) (N := 8) hx hb hts z1 hown hN.1 hP 0 rfl rfl 5 (by decide) z6 (fun _ h9 => h9) rfl dX5_answer_23 ?_
      have hE : g_bestPart = r0 := Option.some.inj hf
      subst hE
      exact rtI hx hb hr hlk hP hD hS dX5_answer_26
