abbrev rmX7_mirrored : Room := { frames := 2, cells := 0, slots := 0, locals := 42 }
noncomputable def fX7_mirrored (q0 : Int64) : Option (Int64) := bd (fJ13_reverse_067f4 q0) (fun u1 => some ((u1.toUInt64 >>> ((23 : Int32).toInt64.toUInt64 &&& Int64.toUInt64 63)).toInt64))
set_option maxHeartbeats 4000000 in
set_option maxRecDepth 100000 in
theorem cX7_mirrored_ct (l : Launch) (D : va_G) (cI cL cC cZ : ClassId) (q0 : Int64) (r0 : Int64) (hf : fX7_mirrored q0 = some r0) : CtL l yX7_mirrored wsX7_mirrored rmX7_mirrored D (tyz cI cL cC cZ) [.long q0] [] [] r0 := by
  refine CtL.make (cc := cX7_mirrored) (maxL := 2) (ty := .long) (by decide) rfl (Nat.le_of_ble_eq_true rfl) ?_
  intro p e s m below meth c A ls C0 hN hA hP hD hl
  obtain ⟨hx, hb, hr, hml, hown, hts, hlk⟩ := id C0
  have hown : s.vm.findClass RX7 = some m.cls := hown
  have hS : va_S A s.heap s.heap [] := va_S.rf
  have hP : va_P D vwCl [] s.heap := hP
  have hD : va_D A [] := hD
  have hl : lv_has ls 2 [(0, .long q0)] := hl
  have z1 := va_cwS (R := rmX7_mirrored) (rm := rmJ13_reverse_067f4) (mc := 0) (ms := 0) 1 hts gX7_mirrored_J13_reverse_067f4 rfl rfl rfl (by decide +kernel) ⟨Nat.le_of_ble_eq_true rfl, Nat.le_of_ble_eq_true rfl⟩
  unfold fX7_mirrored at hf
  obtain ⟨H, eH⟩ : ∃ z, z = s.heap := ⟨_, rfl⟩
  obtain ⟨locs, eL⟩ : ∃ z : List Loc, z = [] := ⟨_, rfl⟩
  have hP : va_P D vwCl [] H := by rw [eH]; exact hP
  have hS : va_S A s.heap H locs := by rw [eH, eL]; exact hS
  suffices hG : W p l e rmX7_mirrored s m ([.long q0] : List Value).toArray below meth c H locs 0 0 (MQ below (cQl D r0 A []) ([.long q0] : List Value).toArray s 0 0 A) (F0 m 0 ls []) by rw [eH, eL] at hG; exact hG
  refine lv_lload_n hx hb dX7_mirrored_0 rfl (lv_at hl 0 rfl) ?_
  obtain ⟨u1, hu1, hf⟩ := bd_some hf
  refine caSL (rest := []) (As := [.long q0]) (wr := []) (wo := []) ⟨hx, hb, hml, hown, hts⟩ hN hP hD hS hA (cJ13_reverse_067f4_ct l D cI cL cC cZ q0 u1 hu1) z1 [] [] [] rfl (by decide) rfl (by decide) (by decide) rfl (by decide) rfl hl.1 rfl (Nat.le_of_ble_eq_true rfl) dX7_mirrored_1 ⟨Nat.zero_le _, Nat.zero_le _⟩ (fun H locs hP hD hS => ?_)
  refine lv_bipush (v := 23) hx hb dX7_mirrored_4 (by decide) ?_
  refine lv_lushr hx hb dX7_mirrored_6 rfl ?_
  have hE : (u1.toUInt64 >>> ((23 : Int32).toInt64.toUInt64 &&& Int64.toUInt64 63)).toInt64 = r0 := Option.some.inj hf
  subst hE
  exact rtL hx hb hr hlk hP hD hS dX7_mirrored_7
abbrev rmX7_difference : Room := { frames := 5, cells := 0, slots := 0, locals := 113 }
noncomputable def fX7_difference (q1 : Int32) (q2 : Int32) (q3 : Int32) (g_slots : Nat → Int64) (g_sums_words : Nat → Int64) (g_addend_words : Nat → Int64) : Option (Int32 × (Nat → Int64) × (Nat → Int64)) := bd (fX7_isSlot q1) (fun u1 => br (u1 = 0) (some (((-1 : Int32), g_sums_words, g_addend_words))) (bd (fX7_isSlot q2) (fun u3 => br (u3 = 0) (some (((-1 : Int32), g_sums_words, g_addend_words))) (br ((-1 : Int32) ≤ q3) (gd (¬ q1 < 0 ∧ q1.toNatClampNeg < 4) (gd (¬ q2 < 0 ∧ q2.toNatClampNeg < 4) (bd (fX7_mirrored (g_slots q2.toNatClampNeg)) (fun u8 => bd (fX7_findSums (g_slots q1.toNatClampNeg) u8 g_sums_words g_addend_words) (fun u9 => br (q3 = (-1 : Int32)) (bd (fX6_size u9.1) (fun u12 => some ((u12, u9.1, u9.2)))) (bd (fX6_numberAtPlace q3 u9.1) (fun u11 => some ((u11, u9.1, u9.2))))))))) (some (((-1 : Int32), g_sums_words, g_addend_words)))))))
set_option maxHeartbeats 4000000 in
set_option maxRecDepth 100000 in
theorem cX7_difference_ct (l : Launch) (D : va_G) (cI cL cC cZ : ClassId) (a_this a_slots a_script a_history a_sums a_addend a_grids a_pairings a_swellings a_smallestSets a_sums_words a_addend_words : Nat) (g_slots : Nat → Int64) (g_sums_words : Nat → Int64) (g_addend_words : Nat → Int64) (q1 : Int32) (q2 : Int32) (q3 : Int32) (r0 : Int32) (v_sums_words : Nat → Int64) (v_addend_words : Nat → Int64) (hf : fX7_difference q1 q2 q3 g_slots g_sums_words g_addend_words = some ((r0, v_sums_words, v_addend_words))) : CtI l yX7_difference wsX7_difference rmX7_difference D (tyz cI cL cC cZ) [.ref a_this, .int q1, .int q2, .int q3] [(a_this, .inr (7, [.ref a_slots, .ref a_script, .ref a_history, .ref a_sums, .ref a_addend, .ref a_grids, .ref a_pairings, .ref a_swellings, .ref a_smallestSets])), (a_slots, .inl (cL, 4, .inr (.inl g_slots))), (a_sums, .inr (6, [.ref a_sums_words])), (a_sums_words, .inl (cL, 4, .inr (.inl g_sums_words))), (a_addend, .inr (6, [.ref a_addend_words])), (a_addend_words, .inl (cL, 4, .inr (.inl g_addend_words)))] [(a_this, .inr (7, [.ref a_slots, .ref a_script, .ref a_history, .ref a_sums, .ref a_addend, .ref a_grids, .ref a_pairings, .ref a_swellings, .ref a_smallestSets])), (a_slots, .inl (cL, 4, .inr (.inl g_slots))), (a_sums, .inr (6, [.ref a_sums_words])), (a_sums_words, .inl (cL, 4, .inr (.inl v_sums_words))), (a_addend, .inr (6, [.ref a_addend_words])), (a_addend_words, .inl (cL, 4, .inr (.inl v_addend_words)))] r0 := by
  refine CtI.make (cc := cX7_difference) (maxL := 4) (ty := .int) (by decide) rfl (Nat.le_of_ble_eq_true rfl) ?_
  intro p e s m below meth c A ls C0 hN hA hP hD hl
  obtain ⟨hx, hb, hr, hml, hown, hts, hlk⟩ := id C0
  have hown : s.vm.findClass RX7 = some m.cls := hown
  have hS : va_S A s.heap s.heap [] := va_S.rf
  have hP : va_P D vwCl [(a_this, .inr (7, [.ref a_slots, .ref a_script, .ref a_history, .ref a_sums, .ref a_addend, .ref a_grids, .ref a_pairings, .ref a_swellings, .ref a_smallestSets])), (a_slots, .inl (cL, 4, .inr (.inl g_slots))), (a_sums, .inr (6, [.ref a_sums_words])), (a_sums_words, .inl (cL, 4, .inr (.inl g_sums_words))), (a_addend, .inr (6, [.ref a_addend_words])), (a_addend_words, .inl (cL, 4, .inr (.inl g_addend_words)))] s.heap := hP
  have hD : va_D A [(a_this, .inr (7, [.ref a_slots, .ref a_script, .ref a_history, .ref a_sums, .ref a_addend, .ref a_grids, .ref a_pairings, .ref a_swellings, .ref a_smallestSets])), (a_slots, .inl (cL, 4, .inr (.inl g_slots))), (a_sums, .inr (6, [.ref a_sums_words])), (a_sums_words, .inl (cL, 4, .inr (.inl g_sums_words))), (a_addend, .inr (6, [.ref a_addend_words])), (a_addend_words, .inl (cL, 4, .inr (.inl g_addend_words)))] := hD
  have hl : lv_has ls 4 [(0, .ref a_this), (1, .int q1), (2, .int q2), (3, .int q3)] := hl
  have z1 := va_cwS (R := rmX7_difference) (rm := rmX7_isSlot) (mc := 0) (ms := 0) 1 hts gX7_difference_X7_isSlot rfl rfl rfl (by decide +kernel) ⟨Nat.le_of_ble_eq_true rfl, Nat.le_of_ble_eq_true rfl⟩
  have z2 : ∀ w ∈ u_ws RX7 TX7 9, w ∈ wsX7_difference := by decide +kernel
  have z3 := hts (.fieldLink RX7 9 "LittleSums" "slots" "[J") (by decide +kernel)
  have z4 := va_cwS (R := rmX7_difference) (rm := rmX7_mirrored) (mc := 0) (ms := 0) 1 hts gX7_difference_X7_mirrored rfl rfl rfl (by decide +kernel) ⟨Nat.le_of_ble_eq_true rfl, Nat.le_of_ble_eq_true rfl⟩
  have z5 := cwV (R := rmX7_difference) (rm := rmX7_findSums) (mc := 0) (ms := 0) 2 hts gX7_difference_X7_findSums rfl rfl rfl (by decide +kernel) ⟨Nat.le_of_ble_eq_true rfl, Nat.le_of_ble_eq_true rfl⟩
  have z6 := hts (.fieldLink RX7 30 "LittleSums" "sums" "LLittleSums$Wide;") (by decide +kernel)
  have z7 := cwV (R := rmX7_difference) (rm := rmX6_numberAtPlace) (mc := 0) (ms := 0) 1 hts gX7_difference_X6_numberAtPlace rfl rfl rfl (by decide +kernel) ⟨Nat.le_of_ble_eq_true rfl, Nat.le_of_ble_eq_true rfl⟩
  have z8 := cwV (R := rmX7_difference) (rm := rmX6_size) (mc := 0) (ms := 0) 0 hts gX7_difference_X6_size rfl rfl rfl (by decide +kernel) ⟨Nat.le_of_ble_eq_true rfl, Nat.le_of_ble_eq_true rfl⟩
  unfold fX7_difference at hf
  obtain ⟨H, eH⟩ : ∃ z, z = s.heap := ⟨_, rfl⟩
  obtain ⟨locs, eL⟩ : ∃ z : List Loc, z = [] := ⟨_, rfl⟩
  have hP : va_P D vwCl [(a_this, .inr (7, [.ref a_slots, .ref a_script, .ref a_history, .ref a_sums, .ref a_addend, .ref a_grids, .ref a_pairings, .ref a_swellings, .ref a_smallestSets])), (a_slots, .inl (cL, 4, .inr (.inl g_slots))), (a_sums, .inr (6, [.ref a_sums_words])), (a_sums_words, .inl (cL, 4, .inr (.inl g_sums_words))), (a_addend, .inr (6, [.ref a_addend_words])), (a_addend_words, .inl (cL, 4, .inr (.inl g_addend_words)))] H := by rw [eH]; exact hP
  have hS : va_S A s.heap H locs := by rw [eH, eL]; exact hS
  suffices hG : W p l e rmX7_difference s m ([.ref a_this, .int q1, .int q2, .int q3] : List Value).toArray below meth c H locs 0 0 (MQ below (cQi D r0 A [(a_this, .inr (7, [.ref a_slots, .ref a_script, .ref a_history, .ref a_sums, .ref a_addend, .ref a_grids, .ref a_pairings, .ref a_swellings, .ref a_smallestSets])), (a_slots, .inl (cL, 4, .inr (.inl g_slots))), (a_sums, .inr (6, [.ref a_sums_words])), (a_sums_words, .inl (cL, 4, .inr (.inl v_sums_words))), (a_addend, .inr (6, [.ref a_addend_words])), (a_addend_words, .inl (cL, 4, .inr (.inl v_addend_words)))]) ([.ref a_this, .int q1, .int q2, .int q3] : List Value).toArray s 0 0 A) (F0 m 0 ls []) by rw [eH, eL] at hG; exact hG
  refine lv_iload_n hx hb dX7_difference_0 rfl (lv_at hl 1 rfl) ?_
  obtain ⟨u1, hu1, hf⟩ := bd_some hf
  refine caSI (rest := []) (As := [.int q1]) (wr := [(a_this, .inr (7, [.ref a_slots, .ref a_script, .ref a_history, .ref a_sums, .ref a_addend, .ref a_grids, .ref a_pairings, .ref a_swellings, .ref a_smallestSets])), (a_slots, .inl (cL, 4, .inr (.inl g_slots))), (a_sums, .inr (6, [.ref a_sums_words])), (a_sums_words, .inl (cL, 4, .inr (.inl g_sums_words))), (a_addend, .inr (6, [.ref a_addend_words])), (a_addend_words, .inl (cL, 4, .inr (.inl g_addend_words)))]) (wo := [(a_this, .inr (7, [.ref a_slots, .ref a_script, .ref a_history, .ref a_sums, .ref a_addend, .ref a_grids, .ref a_pairings, .ref a_swellings, .ref a_smallestSets])), (a_slots, .inl (cL, 4, .inr (.inl g_slots))), (a_sums, .inr (6, [.ref a_sums_words])), (a_sums_words, .inl (cL, 4, .inr (.inl g_sums_words))), (a_addend, .inr (6, [.ref a_addend_words])), (a_addend_words, .inl (cL, 4, .inr (.inl g_addend_words)))]) ⟨hx, hb, hml, hown, hts⟩ hN hP hD hS hA (cX7_isSlot_ct l D cI cL cC cZ q1 u1 hu1) z1 [] [0, 1, 2, 3, 4, 5] [0, 1, 2, 3, 4, 5] rfl (by decide) rfl (by decide) (by decide) rfl (by decide) rfl hl.1 rfl (Nat.le_of_ble_eq_true rfl) dX7_difference_1 ⟨Nat.zero_le _, Nat.zero_le _⟩ (fun H locs hP hD hS => ?_)
  refine lv_if_eq (tgt := 19) hx hb dX7_difference_4 (by decide) (fun c2 => ?_) (fun c2 => ?_)
  · have hf := br_pos c2 hf
    refine lv_iconst (v := -1) hx hb dX7_difference_19 (by decide) ?_
    have hE : ((-1 : Int32), g_sums_words, g_addend_words) = (r0, v_sums_words, v_addend_words) := Option.some.inj hf
    simp only [Prod.mk.injEq] at hE
    obtain ⟨rfl, rfl, rfl⟩ := hE
    exact rtI hx hb hr hlk hP hD hS dX7_difference_20
  · have hf := br_neg c2 hf
    refine lv_iload_n hx hb dX7_difference_7 rfl (lv_at hl 2 rfl) ?_
    obtain ⟨u3, hu3, hf⟩ := bd_some hf
    refine caSI (rest := []) (As := [.int q2]) (wr := [(a_this, .inr (7, [.ref a_slots, .ref a_script, .ref a_history, .ref a_sums, .ref a_addend, .ref a_grids, .ref a_pairings, .ref a_swellings, .ref a_smallestSets])), (a_slots, .inl (cL, 4, .inr (.inl g_slots))), (a_sums, .inr (6, [.ref a_sums_words])), (a_sums_words, .inl (cL, 4, .inr (.inl g_sums_words))), (a_addend, .inr (6, [.ref a_addend_words])), (a_addend_words, .inl (cL, 4, .inr (.inl g_addend_words)))]) (wo := [(a_this, .inr (7, [.ref a_slots, .ref a_script, .ref a_history, .ref a_sums, .ref a_addend, .ref a_grids, .ref a_pairings, .ref a_swellings, .ref a_smallestSets])), (a_slots, .inl (cL, 4, .inr (.inl g_slots))), (a_sums, .inr (6, [.ref a_sums_words])), (a_sums_words, .inl (cL, 4, .inr (.inl g_sums_words))), (a_addend, .inr (6, [.ref a_addend_words])), (a_addend_words, .inl (cL, 4, .inr (.inl g_addend_words)))]) ⟨hx, hb, hml, hown, hts⟩ hN hP hD hS hA (cX7_isSlot_ct l D cI cL cC cZ q2 u3 hu3) z1 [] [0, 1, 2, 3, 4, 5] [0, 1, 2, 3, 4, 5] rfl (by decide) rfl (by decide) (by decide) rfl (by decide) rfl hl.1 rfl (Nat.le_of_ble_eq_true rfl) dX7_difference_8 ⟨Nat.zero_le _, Nat.zero_le _⟩ (fun H locs hP hD hS => ?_)
    refine lv_if_eq (tgt := 19) hx hb dX7_difference_11 (by decide) (fun c4 => ?_) (fun c4 => ?_)
    · have hf := br_pos c4 hf
      refine lv_iconst (v := -1) hx hb dX7_difference_19 (by decide) ?_
      have hE : ((-1 : Int32), g_sums_words, g_addend_words) = (r0, v_sums_words, v_addend_words) := Option.some.inj hf
      simp only [Prod.mk.injEq] at hE
      obtain ⟨rfl, rfl, rfl⟩ := hE
      exact rtI hx hb hr hlk hP hD hS dX7_difference_20
    · have hf := br_neg c4 hf
      refine lv_iload_n hx hb dX7_difference_14 rfl (lv_at hl 3 rfl) ?_
      refine lv_iconst (v := -1) hx hb dX7_difference_15 (by decide) ?_
      refine lv_icmp_ge (tgt := 21) hx hb dX7_difference_16 (by decide) (fun c5 => ?_) (fun c5 => ?_)
      · have hf := br_pos c5 hf
        refine lv_aload_n hx hb dX7_difference_21 rfl (lv_at hl 0 rfl) ?_
        refine lv_aload_n hx hb dX7_difference_22 rfl (lv_at hl 0 rfl) ?_
        refine va_get (D := D) (ci := 7) (v := .ref a_slots) (C := RX7) (T := TX7) (N := 9) hx hb hts z2 hown hN.1 hP 0 rfl rfl 0 (by decide) z3 (fun _ h9 => h9) rfl dX7_difference_23 ?_
        refine lv_iload_n hx hb dX7_difference_26 rfl (lv_at hl 1 rfl) ?_
        obtain ⟨c6, hf⟩ := gd_some hf
        refine va_lald hx hb hN.1 hP 1 1 rfl rfl (ix_in c6) dX7_difference_27 ?_
        refine lv_aload_n hx hb dX7_difference_28 rfl (lv_at hl 0 rfl) ?_
        refine va_get (D := D) (ci := 7) (v := .ref a_slots) (C := RX7) (T := TX7) (N := 9) hx hb hts z2 hown hN.1 hP 0 rfl rfl 0 (by decide) z3 (fun _ h9 => h9) rfl dX7_difference_29 ?_
        refine lv_iload_n hx hb dX7_difference_32 rfl (lv_at hl 2 rfl) ?_
        obtain ⟨c7, hf⟩ := gd_some hf
        refine va_lald hx hb hN.1 hP 1 1 rfl rfl (ix_in c7) dX7_difference_33 ?_
        obtain ⟨u8, hu8, hf⟩ := bd_some hf
        refine caSL (rest := [.long (g_slots q1.toNatClampNeg), .ref a_this]) (As := [.long (g_slots q2.toNatClampNeg)]) (wr := [(a_this, .inr (7, [.ref a_slots, .ref a_script, .ref a_history, .ref a_sums, .ref a_addend, .ref a_grids, .ref a_pairings, .ref a_swellings, .ref a_smallestSets])), (a_slots, .inl (cL, 4, .inr (.inl g_slots))), (a_sums, .inr (6, [.ref a_sums_words])), (a_sums_words, .inl (cL, 4, .inr (.inl g_sums_words))), (a_addend, .inr (6, [.ref a_addend_words])), (a_addend_words, .inl (cL, 4, .inr (.inl g_addend_words)))]) (wo := [(a_this, .inr (7, [.ref a_slots, .ref a_script, .ref a_history, .ref a_sums, .ref a_addend, .ref a_grids, .ref a_pairings, .ref a_swellings, .ref a_smallestSets])), (a_slots, .inl (cL, 4, .inr (.inl g_slots))), (a_sums, .inr (6, [.ref a_sums_words])), (a_sums_words, .inl (cL, 4, .inr (.inl g_sums_words))), (a_addend, .inr (6, [.ref a_addend_words])), (a_addend_words, .inl (cL, 4, .inr (.inl g_addend_words)))]) ⟨hx, hb, hml, hown, hts⟩ hN hP hD hS hA (cX7_mirrored_ct l D cI cL cC cZ (g_slots q2.toNatClampNeg) u8 hu8) z4 [] [0, 1, 2, 3, 4, 5] [0, 1, 2, 3, 4, 5] rfl (by decide) rfl (by decide) (by decide) rfl (by decide) rfl hl.1 rfl (Nat.le_of_ble_eq_true rfl) dX7_difference_34 ⟨Nat.zero_le _, Nat.zero_le _⟩ (fun H locs hP hD hS => ?_)
        obtain ⟨u9, hu9, hf⟩ := bd_some hf
        refine caVV (rest := []) (As := [.long (g_slots q1.toNatClampNeg), .long u8]) (wr := [(a_slots, .inl (cL, 4, .inr (.inl g_slots)))]) (wo := [(a_this, .inr (7, [.ref a_slots, .ref a_script, .ref a_history, .ref a_sums, .ref a_addend, .ref a_grids, .ref a_pairings, .ref a_swellings, .ref a_smallestSets])), (a_slots, .inl (cL, 4, .inr (.inl g_slots))), (a_sums, .inr (6, [.ref a_sums_words])), (a_sums_words, .inl (cL, 4, .inr (.inl u9.1))), (a_addend, .inr (6, [.ref a_addend_words])), (a_addend_words, .inl (cL, 4, .inr (.inl u9.2)))]) ⟨hx, hb, hml, hown, hts⟩ hN hP hD hS hA (cX7_findSums_ct l D cI cL cC cZ a_this a_slots a_script a_history a_sums a_addend a_grids a_pairings a_swellings a_smallestSets a_sums_words a_addend_words g_sums_words g_addend_words (g_slots q1.toNatClampNeg) u8 u9.1 u9.2 hu9) z5 0 7 rfl rfl [0, 2, 3, 4, 5] [1] [1, 0, 2, 3, 4, 5] rfl (by decide) rfl (by decide) (by decide) rfl (by decide) rfl hl.1 rfl (Nat.le_of_ble_eq_true rfl) dX7_difference_37 ⟨Nat.zero_le _, Nat.zero_le _⟩ (fun H locs hP hD hS => ?_)
        refine lv_iload_n hx hb dX7_difference_40 rfl (lv_at hl 3 rfl) ?_
        refine lv_iconst (v := -1) hx hb dX7_difference_41 (by decide) ?_
        refine lv_icmp_ne (tgt := 55) hx hb dX7_difference_42 (by decide) (fun c10 => ?_) (fun c10 => ?_)
        · have hf := br_neg c10 hf
          refine lv_aload_n hx hb dX7_difference_55 rfl (lv_at hl 0 rfl) ?_
          refine va_get (D := D) (ci := 7) (v := .ref a_sums) (C := RX7) (T := TX7) (N := 9) hx hb hts z2 hown hN.1 hP 0 rfl rfl 3 (by decide) z6 (fun _ h9 => h9) rfl dX7_difference_56 ?_
          refine lv_iload_n hx hb dX7_difference_59 rfl (lv_at hl 3 rfl) ?_
          obtain ⟨u11, hu11, hf⟩ := bd_some hf
          refine caVI (rest := []) (As := [.int q3]) (wr := [(a_this, .inr (7, [.ref a_slots, .ref a_script, .ref a_history, .ref a_sums, .ref a_addend, .ref a_grids, .ref a_pairings, .ref a_swellings, .ref a_smallestSets])), (a_slots, .inl (cL, 4, .inr (.inl g_slots))), (a_addend, .inr (6, [.ref a_addend_words])), (a_addend_words, .inl (cL, 4, .inr (.inl u9.2)))]) (wo := [(a_this, .inr (7, [.ref a_slots, .ref a_script, .ref a_history, .ref a_sums, .ref a_addend, .ref a_grids, .ref a_pairings, .ref a_swellings, .ref a_smallestSets])), (a_slots, .inl (cL, 4, .inr (.inl g_slots))), (a_sums, .inr (6, [.ref a_sums_words])), (a_sums_words, .inl (cL, 4, .inr (.inl u9.1))), (a_addend, .inr (6, [.ref a_addend_words])), (a_addend_words, .inl (cL, 4, .inr (.inl u9.2)))]) ⟨hx, hb, hml, hown, hts⟩ hN hP hD hS hA (cX6_numberAtPlace_ct l D cI cL cC cZ a_sums a_sums_words u9.1 q3 u11 hu11) z7 2 6 rfl rfl [2, 3] [0, 1, 4, 5] [0, 1, 4, 5, 2, 3] rfl (by decide) rfl (by decide) (by decide) rfl (by decide) rfl hl.1 rfl (Nat.le_of_ble_eq_true rfl) dX7_difference_60 ⟨Nat.zero_le _, Nat.zero_le _⟩ (fun H locs hP hD hS => ?_)
          have hE : (u11, u9.1, u9.2) = (r0, v_sums_words, v_addend_words) := Option.some.inj hf
          simp only [Prod.mk.injEq] at hE
          obtain ⟨rfl, rfl, rfl⟩ := hE
          exact rtI hx hb hr hlk hP hD hS dX7_difference_63
        · have hf := br_pos c10 hf
          refine lv_aload_n hx hb dX7_difference_45 rfl (lv_at hl 0 rfl) ?_
          refine va_get (D := D) (ci := 7) (v := .ref a_sums) (C := RX7) (T := TX7) (N := 9) hx hb hts z2 hown hN.1 hP 0 rfl rfl 3 (by decide) z6 (fun _ h9 => h9) rfl dX7_difference_46 ?_
          obtain ⟨u12, hu12, hf⟩ := bd_some hf
          refine caVI (rest := []) (As := []) (wr := [(a_this, .inr (7, [.ref a_slots, .ref a_script, .ref a_history, .ref a_sums, .ref a_addend, .ref a_grids, .ref a_pairings, .ref a_swellings, .ref a_smallestSets])), (a_slots, .inl (cL, 4, .inr (.inl g_slots))), (a_addend, .inr (6, [.ref a_addend_words])), (a_addend_words, .inl (cL, 4, .inr (.inl u9.2)))]) (wo := [(a_this, .inr (7, [.ref a_slots, .ref a_script, .ref a_history, .ref a_sums, .ref a_addend, .ref a_grids, .ref a_pairings, .ref a_swellings, .ref a_smallestSets])), (a_slots, .inl (cL, 4, .inr (.inl g_slots))), (a_sums, .inr (6, [.ref a_sums_words])), (a_sums_words, .inl (cL, 4, .inr (.inl u9.1))), (a_addend, .inr (6, [.ref a_addend_words])), (a_addend_words, .inl (cL, 4, .inr (.inl u9.2)))]) ⟨hx, hb, hml, hown, hts⟩ hN hP hD hS hA (cX6_size_ct l D cI cL cC cZ a_sums a_sums_words u9.1 u12 hu12) z8 2 6 rfl rfl [2, 3] [0, 1, 4, 5] [0, 1, 4, 5, 2, 3] rfl (by decide) rfl (by decide) (by decide) rfl (by decide) rfl hl.1 rfl (Nat.le_of_ble_eq_true rfl) dX7_difference_49 ⟨Nat.zero_le _, Nat.zero_le _⟩ (fun H locs hP hD hS => ?_)
          refine lv_goto (tgt := 63) hx hb dX7_difference_52 (by decide) ?_
          have hE : (u12, u9.1, u9.2) = (r0, v_sums_words, v_addend_words) := Option.some.inj hf
          simp only [Prod.mk.injEq] at hE
          obtain ⟨rfl, rfl, rfl⟩ := hE
          exact rtI hx hb hr hlk hP hD hS dX7_difference_63
      · have hf := br_neg c5 hf
        refine lv_iconst (v := -1) hx hb dX7_difference_19 (by decide) ?_
        have hE : ((-1 : Int32), g_sums_words, g_addend_words) = (r0, v_sums_words, v_addend_words) := Option.some.inj hf
        simp only [Prod.mk.injEq] at hE
        obtain ⟨rfl, rfl, rfl⟩ := hE
        exact rtI hx hb hr hlk hP hD hS dX7_difference_20
abbrev rmX7_times : Room := { frames := 3, cells := 0, slots := 0, locals := 85 }
noncomputable def bX7_times_35 (x1 : Int32) (x2 : Int32) (g_slots : Nat → Int64) (x3 : Int32) (g_sums_words : Nat → Int64) (g_addend_words : Nat → Int64) : Option ((Int32 × (Nat → Int64) × (Nat → Int64)) ⊕ (Int32 × (Nat → Int64) × (Nat → Int64))) := br (x2 ≤ x3) (bd (fX6_size g_sums_words) (fun u2 => some (Sum.inr ((u2, g_sums_words, g_addend_words))))) (bd (fX6_becomeLike g_addend_words g_sums_words) (fun u3 => gd (¬ x1 < 0 ∧ x1.toNatClampNeg < 4) (bd (fX6_becomeSumsOf (g_slots x1.toNatClampNeg) g_sums_words u3) (fun u5 => lt_ (x3 + (1 : Int32)) (fun y6 => some (Sum.inl ((y6, u5, u3))))))))
noncomputable def sX7_times_35 (x1 : Int32) (x2 : Int32) (g_slots : Nat → Int64) : (Int32 × (Nat → Int64) × (Nat → Int64)) → Option ((Int32 × (Nat → Int64) × (Nat → Int64)) ⊕ (Int32 × (Nat → Int64) × (Nat → Int64))) := fun q => bX7_times_35 x1 x2 g_slots q.1 q.2.1 q.2.2
noncomputable def fX7_times (q1 : Int32) (q2 : Int32) (g_slots : Nat → Int64) (g_sums_words : Nat → Int64) (g_addend_words : Nat → Int64) : Option (Int32 × (Nat → Int64) × (Nat → Int64)) := bd (fX7_isSlot q1) (fun u7 => br (u7 = 0) (some (((-1 : Int32), g_sums_words, g_addend_words))) (br (q2 < (1 : Int32)) (some (((-1 : Int32), g_sums_words, g_addend_words))) (br (q2 ≤ (6 : Int32)) (gd (¬ q1 < 0 ∧ q1.toNatClampNeg < 4) (bd (fX6_become (g_slots q1.toNatClampNeg) g_sums_words) (fun u12 => run (sX7_times_35 q1 q2 g_slots) (((1 : Int32), u12, g_addend_words))))) (some (((-1 : Int32), g_sums_words, g_addend_words))))))
set_option maxHeartbeats 4000000 in
set_option maxRecDepth 100000 in
theorem cX7_times_ct (l : Launch) (D : va_G) (cI cL cC cZ : ClassId) (a_this a_slots a_script a_history a_sums a_addend a_grids a_pairings a_swellings a_smallestSets a_sums_words a_addend_words : Nat) (g_slots : Nat → Int64) (g_sums_words : Nat → Int64) (g_addend_words : Nat → Int64) (q1 : Int32) (q2 : Int32) (r0 : Int32) (v_sums_words : Nat → Int64) (v_addend_words : Nat → Int64) (hf : fX7_times q1 q2 g_slots g_sums_words g_addend_words = some ((r0, v_sums_words, v_addend_words))) : CtI l yX7_times wsX7_times rmX7_times D (tyz cI cL cC cZ) [.ref a_this, .int q1, .int q2] [(a_this, .inr (7, [.ref a_slots, .ref a_script, .ref a_history, .ref a_sums, .ref a_addend, .ref a_grids, .ref a_pairings, .ref a_swellings, .ref a_smallestSets])), (a_slots, .inl (cL, 4, .inr (.inl g_slots))), (a_sums, .inr (6, [.ref a_sums_words])), (a_sums_words, .inl (cL, 4, .inr (.inl g_sums_words))), (a_addend, .inr (6, [.ref a_addend_words])), (a_addend_words, .inl (cL, 4, .inr (.inl g_addend_words)))] [(a_this, .inr (7, [.ref a_slots, .ref a_script, .ref a_history, .ref a_sums, .ref a_addend, .ref a_grids, .ref a_pairings, .ref a_swellings, .ref a_smallestSets])), (a_slots, .inl (cL, 4, .inr (.inl g_slots))), (a_sums, .inr (6, [.ref a_sums_words])), (a_sums_words, .inl (cL, 4, .inr (.inl v_sums_words))), (a_addend, .inr (6, [.ref a_addend_words])), (a_addend_words, .inl (cL, 4, .inr (.inl v_addend_words)))] r0 := by
  refine CtI.make (cc := cX7_times) (maxL := 4) (ty := .int) (by decide) rfl (Nat.le_of_ble_eq_true rfl) ?_
  intro p e s m below meth c A ls C0 hN hA hP hD hl
  obtain ⟨hx, hb, hr, hml, hown, hts, hlk⟩ := id C0
  have hown : s.vm.findClass RX7 = some m.cls := hown
  have hS : va_S A s.heap s.heap [] := va_S.rf
  have hP : va_P D vwCl [(a_this, .inr (7, [.ref a_slots, .ref a_script, .ref a_history, .ref a_sums, .ref a_addend, .ref a_grids, .ref a_pairings, .ref a_swellings, .ref a_smallestSets])), (a_slots, .inl (cL, 4, .inr (.inl g_slots))), (a_sums, .inr (6, [.ref a_sums_words])), (a_sums_words, .inl (cL, 4, .inr (.inl g_sums_words))), (a_addend, .inr (6, [.ref a_addend_words])), (a_addend_words, .inl (cL, 4, .inr (.inl g_addend_words)))] s.heap := hP
  have hD : va_D A [(a_this, .inr (7, [.ref a_slots, .ref a_script, .ref a_history, .ref a_sums, .ref a_addend, .ref a_grids, .ref a_pairings, .ref a_swellings, .ref a_smallestSets])), (a_slots, .inl (cL, 4, .inr (.inl g_slots))), (a_sums, .inr (6, [.ref a_sums_words])), (a_sums_words, .inl (cL, 4, .inr (.inl g_sums_words))), (a_addend, .inr (6, [.ref a_addend_words])), (a_addend_words, .inl (cL, 4, .inr (.inl g_addend_words)))] := hD
  have hl : lv_has ls 4 [(0, .ref a_this), (1, .int q1), (2, .int q2)] := hl
  have z1 : ∀ w ∈ u_ws RX7 TX7 9, w ∈ wsX7_times := by decide +kernel
  have z2 := hts (.fieldLink RX7 30 "LittleSums" "sums" "LLittleSums$Wide;") (by decide +kernel)
  have z3 := cwV (R := rmX7_times) (rm := rmX6_size) (mc := 0) (ms := 0) 0 hts gX7_times_X6_size rfl rfl rfl (by decide +kernel) ⟨Nat.le_of_ble_eq_true rfl, Nat.le_of_ble_eq_true rfl⟩
  have z4 := hts (.fieldLink RX7 34 "LittleSums" "addend" "LLittleSums$Wide;") (by decide +kernel)
  have z5 := cwV (R := rmX7_times) (rm := rmX6_becomeLike) (mc := 0) (ms := 0) 1 hts gX7_times_X6_becomeLike rfl rfl rfl (by decide +kernel) ⟨Nat.le_of_ble_eq_true rfl, Nat.le_of_ble_eq_true rfl⟩
  have z6 := hts (.fieldLink RX7 9 "LittleSums" "slots" "[J") (by decide +kernel)
  have z7 := cwV (R := rmX7_times) (rm := rmX6_becomeSumsOf) (mc := 0) (ms := 0) 2 hts gX7_times_X6_becomeSumsOf rfl rfl rfl (by decide +kernel) ⟨Nat.le_of_ble_eq_true rfl, Nat.le_of_ble_eq_true rfl⟩
  have z8 := va_cwS (R := rmX7_times) (rm := rmX7_isSlot) (mc := 0) (ms := 0) 1 hts gX7_times_X7_isSlot rfl rfl rfl (by decide +kernel) ⟨Nat.le_of_ble_eq_true rfl, Nat.le_of_ble_eq_true rfl⟩
  have z9 := cwV (R := rmX7_times) (rm := rmX6_become) (mc := 0) (ms := 0) 1 hts gX7_times_X6_become rfl rfl rfl (by decide +kernel) ⟨Nat.le_of_ble_eq_true rfl, Nat.le_of_ble_eq_true rfl⟩
  have w35 : ∀ (x1 : Int32) (x2 : Int32) (g_slots : Nat → Int64) (x3 : Int32) (g_sums_words : Nat → Int64) (g_addend_words : Nat → Int64) (t : Int32 × (Nat → Int64) × (Nat → Int64)) (H : Heap) (locs : List Loc) (ls : Array Slot), run (sX7_times_35 x1 x2 g_slots) ((x3, g_sums_words, g_addend_words)) = some t → (fun z => z = (r0, v_sums_words, v_addend_words)) t → va_P D vwCl [(a_this, .inr (7, [.ref a_slots, .ref a_script, .ref a_history, .ref a_sums, .ref a_addend, .ref a_grids, .ref a_pairings, .ref a_swellings, .ref a_smallestSets])), (a_slots, .inl (cL, 4, .inr (.inl g_slots))), (a_sums, .inr (6, [.ref a_sums_words])), (a_sums_words, .inl (cL, 4, .inr (.inl g_sums_words))), (a_addend, .inr (6, [.ref a_addend_words])), (a_addend_words, .inl (cL, 4, .inr (.inl g_addend_words)))] H → va_D A [(a_this, .inr (7, [.ref a_slots, .ref a_script, .ref a_history, .ref a_sums, .ref a_addend, .ref a_grids, .ref a_pairings, .ref a_swellings, .ref a_smallestSets])), (a_slots, .inl (cL, 4, .inr (.inl g_slots))), (a_sums, .inr (6, [.ref a_sums_words])), (a_sums_words, .inl (cL, 4, .inr (.inl g_sums_words))), (a_addend, .inr (6, [.ref a_addend_words])), (a_addend_words, .inl (cL, 4, .inr (.inl g_addend_words)))] → va_S A s.heap H locs → lv_has ls 4 [(0, .ref a_this), (1, .int x1), (2, .int x2), (3, .int x3)] → W p l e rmX7_times s m ([.ref a_this, .int q1, .int q2] : List Value).toArray below meth c H locs 0 0 (MQ below (cQi D r0 A [(a_this, .inr (7, [.ref a_slots, .ref a_script, .ref a_history, .ref a_sums, .ref a_addend, .ref a_grids, .ref a_pairings, .ref a_swellings, .ref a_smallestSets])), (a_slots, .inl (cL, 4, .inr (.inl g_slots))), (a_sums, .inr (6, [.ref a_sums_words])), (a_sums_words, .inl (cL, 4, .inr (.inl v_sums_words))), (a_addend, .inr (6, [.ref a_addend_words])), (a_addend_words, .inl (cL, 4, .inr (.inl v_addend_words)))]) ([.ref a_this, .int q1, .int q2] : List Value).toArray s 0 0 A) (F0 m 35 ls []) := by
    intro x1 x2 g_slots
    obtain ⟨F35, eF35⟩ : ∃ F : (Int32 × (Nat → Int64) × (Nat → Int64)) → Prop, F = fun q => ∀ (H : Heap) (locs : List Loc) (ls : Array Slot), va_P D vwCl [(a_this, .inr (7, [.ref a_slots, .ref a_script, .ref a_history, .ref a_sums, .ref a_addend, .ref a_grids, .ref a_pairings, .ref a_swellings, .ref a_smallestSets])), (a_slots, .inl (cL, 4, .inr (.inl g_slots))), (a_sums, .inr (6, [.ref a_sums_words])), (a_sums_words, .inl (cL, 4, .inr (.inl q.2.1))), (a_addend, .inr (6, [.ref a_addend_words])), (a_addend_words, .inl (cL, 4, .inr (.inl q.2.2)))] H → va_D A [(a_this, .inr (7, [.ref a_slots, .ref a_script, .ref a_history, .ref a_sums, .ref a_addend, .ref a_grids, .ref a_pairings, .ref a_swellings, .ref a_smallestSets])), (a_slots, .inl (cL, 4, .inr (.inl g_slots))), (a_sums, .inr (6, [.ref a_sums_words])), (a_sums_words, .inl (cL, 4, .inr (.inl q.2.1))), (a_addend, .inr (6, [.ref a_addend_words])), (a_addend_words, .inl (cL, 4, .inr (.inl q.2.2)))] → va_S A s.heap H locs → lv_has ls 4 [(0, .ref a_this), (1, .int x1), (2, .int x2), (3, .int q.1)] → W p l e rmX7_times s m ([.ref a_this, .int q1, .int q2] : List Value).toArray below meth c H locs 0 0 (MQ below (cQi D r0 A [(a_this, .inr (7, [.ref a_slots, .ref a_script, .ref a_history, .ref a_sums, .ref a_addend, .ref a_grids, .ref a_pairings, .ref a_swellings, .ref a_smallestSets])), (a_slots, .inl (cL, 4, .inr (.inl g_slots))), (a_sums, .inr (6, [.ref a_sums_words])), (a_sums_words, .inl (cL, 4, .inr (.inl v_sums_words))), (a_addend, .inr (6, [.ref a_addend_words])), (a_addend_words, .inl (cL, 4, .inr (.inl v_addend_words)))]) ([.ref a_this, .int q1, .int q2] : List Value).toArray s 0 0 A) (F0 m 35 ls []) := ⟨_, rfl⟩
    have key : ∀ (q : Int32 × (Nat → Int64) × (Nat → Int64)) (t : Int32 × (Nat → Int64) × (Nat → Int64)), run (sX7_times_35 x1 x2 g_slots) q = some t → (fun z => z = (r0, v_sums_words, v_addend_words)) t → F35 q := by
      refine loop_rule (sX7_times_35 x1 x2 g_slots) F35 (fun z => z = (r0, v_sums_words, v_addend_words)) ?_
      intro q t hf hF
      have hF : (Sum.elim F35 (fun z => z = (r0, v_sums_words, v_addend_words))) t := hF
      rw [eF35]
      obtain ⟨x3, g_sums_words, g_addend_words⟩ := q
      intro H locs ls hP hD hS hl
      have hP : va_P D vwCl [(a_this, .inr (7, [.ref a_slots, .ref a_script, .ref a_history, .ref a_sums, .ref a_addend, .ref a_grids, .ref a_pairings, .ref a_swellings, .ref a_smallestSets])), (a_slots, .inl (cL, 4, .inr (.inl g_slots))), (a_sums, .inr (6, [.ref a_sums_words])), (a_sums_words, .inl (cL, 4, .inr (.inl g_sums_words))), (a_addend, .inr (6, [.ref a_addend_words])), (a_addend_words, .inl (cL, 4, .inr (.inl g_addend_words)))] H := hP
      have hD : va_D A [(a_this, .inr (7, [.ref a_slots, .ref a_script, .ref a_history, .ref a_sums, .ref a_addend, .ref a_grids, .ref a_pairings, .ref a_swellings, .ref a_smallestSets])), (a_slots, .inl (cL, 4, .inr (.inl g_slots))), (a_sums, .inr (6, [.ref a_sums_words])), (a_sums_words, .inl (cL, 4, .inr (.inl g_sums_words))), (a_addend, .inr (6, [.ref a_addend_words])), (a_addend_words, .inl (cL, 4, .inr (.inl g_addend_words)))] := hD
      have hl : lv_has ls 4 [(0, .ref a_this), (1, .int x1), (2, .int x2), (3, .int x3)] := hl
      have hf : bX7_times_35 x1 x2 g_slots x3 g_sums_words g_addend_words = some t := hf
      unfold bX7_times_35 at hf
      refine lv_iload_n hx hb dX7_times_35 rfl (lv_at hl 3 rfl) ?_
      refine lv_iload_n hx hb dX7_times_36 rfl (lv_at hl 2 rfl) ?_
      refine lv_icmp_ge (tgt := 74) hx hb dX7_times_37 (by decide) (fun c1 => ?_) (fun c1 => ?_)
      · have hf := br_pos c1 hf
        refine lv_aload_n hx hb dX7_times_74 rfl (lv_at hl 0 rfl) ?_
        refine va_get (D := D) (ci := 7) (v := .ref a_sums) (C := RX7) (T := TX7) (N := 9) hx hb hts z1 hown hN.1 hP 0 rfl rfl 3 (by decide) z2 (fun _ h9 => h9) rfl dX7_times_75 ?_
        obtain ⟨u2, hu2, hf⟩ := bd_some hf
        refine caVI (rest := []) (As := []) (wr := [(a_this, .inr (7, [.ref a_slots, .ref a_script, .ref a_history, .ref a_sums, .ref a_addend, .ref a_grids, .ref a_pairings, .ref a_swellings, .ref a_smallestSets])), (a_slots, .inl (cL, 4, .inr (.inl g_slots))), (a_addend, .inr (6, [.ref a_addend_words])), (a_addend_words, .inl (cL, 4, .inr (.inl g_addend_words)))]) (wo := [(a_this, .inr (7, [.ref a_slots, .ref a_script, .ref a_history, .ref a_sums, .ref a_addend, .ref a_grids, .ref a_pairings, .ref a_swellings, .ref a_smallestSets])), (a_slots, .inl (cL, 4, .inr (.inl g_slots))), (a_sums, .inr (6, [.ref a_sums_words])), (a_sums_words, .inl (cL, 4, .inr (.inl g_sums_words))), (a_addend, .inr (6, [.ref a_addend_words])), (a_addend_words, .inl (cL, 4, .inr (.inl g_addend_words)))]) ⟨hx, hb, hml, hown, hts⟩ hN hP hD hS hA (cX6_size_ct l D cI cL cC cZ a_sums a_sums_words g_sums_words u2 hu2) z3 2 6 rfl rfl [2, 3] [0, 1, 4, 5] [0, 1, 4, 5, 2, 3] rfl (by decide) rfl (by decide) (by decide) rfl (by decide) rfl hl.1 rfl (Nat.le_of_ble_eq_true rfl) dX7_times_78 ⟨Nat.zero_le _, Nat.zero_le _⟩ (fun H locs hP hD hS => ?_)
        cases hf
        have hE : (u2, g_sums_words, g_addend_words) = (r0, v_sums_words, v_addend_words) := hF
        simp only [Prod.mk.injEq] at hE
        obtain ⟨rfl, rfl, rfl⟩ := hE
        exact rtI hx hb hr hlk hP hD hS dX7_times_81
      · have hf := br_neg c1 hf
        refine lv_aload_n hx hb dX7_times_40 rfl (lv_at hl 0 rfl) ?_
        refine va_get (D := D) (ci := 7) (v := .ref a_addend) (C := RX7) (T := TX7) (N := 9) hx hb hts z1 hown hN.1 hP 0 rfl rfl 4 (by decide) z4 (fun _ h9 => h9) rfl dX7_times_41 ?_
        refine lv_aload_n hx hb dX7_times_44 rfl (lv_at hl 0 rfl) ?_
        refine va_get (D := D) (ci := 7) (v := .ref a_sums) (C := RX7) (T := TX7) (N := 9) hx hb hts z1 hown hN.1 hP 0 rfl rfl 3 (by decide) z2 (fun _ h9 => h9) rfl dX7_times_45 ?_
        obtain ⟨u3, hu3, hf⟩ := bd_some hf
        refine caVV (rest := []) (As := [.ref a_sums]) (wr := [(a_this, .inr (7, [.ref a_slots, .ref a_script, .ref a_history, .ref a_sums, .ref a_addend, .ref a_grids, .ref a_pairings, .ref a_swellings, .ref a_smallestSets])), (a_slots, .inl (cL, 4, .inr (.inl g_slots)))]) (wo := [(a_this, .inr (7, [.ref a_slots, .ref a_script, .ref a_history, .ref a_sums, .ref a_addend, .ref a_grids, .ref a_pairings, .ref a_swellings, .ref a_smallestSets])), (a_slots, .inl (cL, 4, .inr (.inl g_slots))), (a_sums, .inr (6, [.ref a_sums_words])), (a_sums_words, .inl (cL, 4, .inr (.inl g_sums_words))), (a_addend, .inr (6, [.ref a_addend_words])), (a_addend_words, .inl (cL, 4, .inr (.inl u3)))]) ⟨hx, hb, hml, hown, hts⟩ hN hP hD hS hA (cX6_becomeLike_ct l D cI cL cC cZ a_addend a_sums a_addend_words a_sums_words g_addend_words g_sums_words u3 hu3) z5 4 6 rfl rfl [4, 5, 2, 3] [0, 1] [0, 1, 4, 5, 2, 3] rfl (by decide) rfl (by decide) (by decide) rfl (by decide) rfl hl.1 rfl (Nat.le_of_ble_eq_true rfl) dX7_times_48 ⟨Nat.zero_le _, Nat.zero_le _⟩ (fun H locs hP hD hS => ?_)
        refine lv_aload_n hx hb dX7_times_51 rfl (lv_at hl 0 rfl) ?_
        refine va_get (D := D) (ci := 7) (v := .ref a_sums) (C := RX7) (T := TX7) (N := 9) hx hb hts z1 hown hN.1 hP 0 rfl rfl 3 (by decide) z2 (fun _ h9 => h9) rfl dX7_times_52 ?_
        refine lv_aload_n hx hb dX7_times_55 rfl (lv_at hl 0 rfl) ?_
        refine va_get (D := D) (ci := 7) (v := .ref a_slots) (C := RX7) (T := TX7) (N := 9) hx hb hts z1 hown hN.1 hP 0 rfl rfl 0 (by decide) z6 (fun _ h9 => h9) rfl dX7_times_56 ?_
        refine lv_iload_n hx hb dX7_times_59 rfl (lv_at hl 1 rfl) ?_
        obtain ⟨c4, hf⟩ := gd_some hf
        refine va_lald hx hb hN.1 hP 1 1 rfl rfl (ix_in c4) dX7_times_60 ?_
        refine lv_aload_n hx hb dX7_times_61 rfl (lv_at hl 0 rfl) ?_
        refine va_get (D := D) (ci := 7) (v := .ref a_addend) (C := RX7) (T := TX7) (N := 9) hx hb hts z1 hown hN.1 hP 0 rfl rfl 4 (by decide) z4 (fun _ h9 => h9) rfl dX7_times_62 ?_
        obtain ⟨u5, hu5, hf⟩ := bd_some hf
        refine caVV (rest := []) (As := [.long (g_slots x1.toNatClampNeg), .ref a_addend]) (wr := [(a_this, .inr (7, [.ref a_slots, .ref a_script, .ref a_history, .ref a_sums, .ref a_addend, .ref a_grids, .ref a_pairings, .ref a_swellings, .ref a_smallestSets])), (a_slots, .inl (cL, 4, .inr (.inl g_slots)))]) (wo := [(a_this, .inr (7, [.ref a_slots, .ref a_script, .ref a_history, .ref a_sums, .ref a_addend, .ref a_grids, .ref a_pairings, .ref a_swellings, .ref a_smallestSets])), (a_slots, .inl (cL, 4, .inr (.inl g_slots))), (a_sums, .inr (6, [.ref a_sums_words])), (a_sums_words, .inl (cL, 4, .inr (.inl u5))), (a_addend, .inr (6, [.ref a_addend_words])), (a_addend_words, .inl (cL, 4, .inr (.inl u3)))]) ⟨hx, hb, hml, hown, hts⟩ hN hP hD hS hA (cX6_becomeSumsOf_ct l D cI cL cC cZ a_sums a_addend a_sums_words a_addend_words g_sums_words u3 (g_slots x1.toNatClampNeg) u5 hu5) z7 2 6 rfl rfl [2, 3, 4, 5] [0, 1] [0, 1, 2, 3, 4, 5] rfl (by decide) rfl (by decide) (by decide) rfl (by decide) rfl hl.1 rfl (Nat.le_of_ble_eq_true rfl) dX7_times_65 ⟨Nat.zero_le _, Nat.zero_le _⟩ (fun H locs hP hD hS => ?_)
        obtain ⟨y6, ey6⟩ : ∃ z : Int32, z = x3 + (1 : Int32) := ⟨_, rfl⟩
        have hf := lt_some hf y6 ey6
        refine lv_iinc (v := y6) (lv' := [(3, .int y6), (0, .ref a_this), (1, .int x1), (2, .int x2)]) hx hb dX7_times_68 hl (k := 3) rfl (by rw [ey6]; rfl) (by decide) rfl (fun ls hl => ?_)
        refine lv_goto (tgt := 35) hx hb dX7_times_71 (by decide) ?_
        cases hf
        exact ((congrFun eF35 _).mp hF) H locs ls hP hD hS (lv_sub hl [1, 2, 3, 0] rfl)
    intro x3 g_sums_words g_addend_words t H locs ls hf hF hP hD hS hl
    exact ((congrFun eF35 _).mp (key ((x3, g_sums_words, g_addend_words)) t hf hF)) H locs ls hP hD hS hl
  unfold fX7_times at hf
  obtain ⟨H, eH⟩ : ∃ z, z = s.heap := ⟨_, rfl⟩
  obtain ⟨locs, eL⟩ : ∃ z : List Loc, z = [] := ⟨_, rfl⟩
  have hP : va_P D vwCl [(a_this, .inr (7, [.ref a_slots, .ref a_script, .ref a_history, .ref a_sums, .ref a_addend, .ref a_grids, .ref a_pairings, .ref a_swellings, .ref a_smallestSets])), (a_slots, .inl (cL, 4, .inr (.inl g_slots))), (a_sums, .inr (6, [.ref a_sums_words])), (a_sums_words, .inl (cL, 4, .inr (.inl g_sums_words))), (a_addend, .inr (6, [.ref a_addend_words])), (a_addend_words, .inl (cL, 4, .inr (.inl g_addend_words)))] H := by rw [eH]; exact hP
  have hS : va_S A s.heap H locs := by rw [eH, eL]; exact hS
  suffices hG : W p l e rmX7_times s m ([.ref a_this, .int q1, .int q2] : List Value).toArray below meth c H locs 0 0 (MQ below (cQi D r0 A [(a_this, .inr (7, [.ref a_slots, .ref a_script, .ref a_history, .ref a_sums, .ref a_addend, .ref a_grids, .ref a_pairings, .ref a_swellings, .ref a_smallestSets])), (a_slots, .inl (cL, 4, .inr (.inl g_slots))), (a_sums, .inr (6, [.ref a_sums_words])), (a_sums_words, .inl (cL, 4, .inr (.inl v_sums_words))), (a_addend, .inr (6, [.ref a_addend_words])), (a_addend_words, .inl (cL, 4, .inr (.inl v_addend_words)))]) ([.ref a_this, .int q1, .int q2] : List Value).toArray s 0 0 A) (F0 m 0 ls []) by rw [eH, eL] at hG; exact hG
  refine lv_iload_n hx hb dX7_times_0 rfl (lv_at hl 1 rfl) ?_
  obtain ⟨u7, hu7, hf⟩ := bd_some hf
  refine caSI (rest := []) (As := [.int q1]) (wr := [(a_this, .inr (7, [.ref a_slots, .ref a_script, .ref a_history, .ref a_sums, .ref a_addend, .ref a_grids, .ref a_pairings, .ref a_swellings, .ref a_smallestSets])), (a_slots, .inl (cL, 4, .inr (.inl g_slots))), (a_sums, .inr (6, [.ref a_sums_words])), (a_sums_words, .inl (cL, 4, .inr (.inl g_sums_words))), (a_addend, .inr (6, [.ref a_addend_words])), (a_addend_words, .inl (cL, 4, .inr (.inl g_addend_words)))]) (wo := [(a_this, .inr (7, [.ref a_slots, .ref a_script, .ref a_history, .ref a_sums, .ref a_addend, .ref a_grids, .ref a_pairings, .ref a_swellings, .ref a_smallestSets])), (a_slots, .inl (cL, 4, .inr (.inl g_slots))), (a_sums, .inr (6, [.ref a_sums_words])), (a_sums_words, .inl (cL, 4, .inr (.inl g_sums_words))), (a_addend, .inr (6, [.ref a_addend_words])), (a_addend_words, .inl (cL, 4, .inr (.inl g_addend_words)))]) ⟨hx, hb, hml, hown, hts⟩ hN hP hD hS hA (cX7_isSlot_ct l D cI cL cC cZ q1 u7 hu7) z8 [] [0, 1, 2, 3, 4, 5] [0, 1, 2, 3, 4, 5] rfl (by decide) rfl (by decide) (by decide) rfl (by decide) rfl hl.1 rfl (Nat.le_of_ble_eq_true rfl) dX7_times_1 ⟨Nat.zero_le _, Nat.zero_le _⟩ (fun H locs hP hD hS => ?_)
  refine lv_if_eq (tgt := 18) hx hb dX7_times_4 (by decide) (fun c8 => ?_) (fun c8 => ?_)
  · have hf := br_pos c8 hf
    refine lv_iconst (v := -1) hx hb dX7_times_18 (by decide) ?_
    have hE : ((-1 : Int32), g_sums_words, g_addend_words) = (r0, v_sums_words, v_addend_words) := Option.some.inj hf
    simp only [Prod.mk.injEq] at hE
    obtain ⟨rfl, rfl, rfl⟩ := hE
    exact rtI hx hb hr hlk hP hD hS dX7_times_19
  · have hf := br_neg c8 hf
    refine lv_iload_n hx hb dX7_times_7 rfl (lv_at hl 2 rfl) ?_
    refine lv_iconst (v := 1) hx hb dX7_times_8 (by decide) ?_
    refine lv_icmp_lt (tgt := 18) hx hb dX7_times_9 (by decide) (fun c9 => ?_) (fun c9 => ?_)
    · have hf := br_pos c9 hf
      refine lv_iconst (v := -1) hx hb dX7_times_18 (by decide) ?_
      have hE : ((-1 : Int32), g_sums_words, g_addend_words) = (r0, v_sums_words, v_addend_words) := Option.some.inj hf
      simp only [Prod.mk.injEq] at hE
      obtain ⟨rfl, rfl, rfl⟩ := hE
      exact rtI hx hb hr hlk hP hD hS dX7_times_19
    · have hf := br_neg c9 hf
      refine lv_iload_n hx hb dX7_times_12 rfl (lv_at hl 2 rfl) ?_
      refine lv_bipush (v := 6) hx hb dX7_times_13 (by decide) ?_
      refine lv_icmp_le (tgt := 20) hx hb dX7_times_15 (by decide) (fun c10 => ?_) (fun c10 => ?_)
      · have hf := br_pos c10 hf
        refine lv_aload_n hx hb dX7_times_20 rfl (lv_at hl 0 rfl) ?_
        refine va_get (D := D) (ci := 7) (v := .ref a_sums) (C := RX7) (T := TX7) (N := 9) hx hb hts z1 hown hN.1 hP 0 rfl rfl 3 (by decide) z2 (fun _ h9 => h9) rfl dX7_times_21 ?_
        refine lv_aload_n hx hb dX7_times_24 rfl (lv_at hl 0 rfl) ?_
        refine va_get (D := D) (ci := 7) (v := .ref a_slots) (C := RX7) (T := TX7) (N := 9) hx hb hts z1 hown hN.1 hP 0 rfl rfl 0 (by decide) z6 (fun _ h9 => h9) rfl dX7_times_25 ?_
        refine lv_iload_n hx hb dX7_times_28 rfl (lv_at hl 1 rfl) ?_
        obtain ⟨c11, hf⟩ := gd_some hf
        refine va_lald hx hb hN.1 hP 1 1 rfl rfl (ix_in c11) dX7_times_29 ?_
        obtain ⟨u12, hu12, hf⟩ := bd_some hf
        refine caVV (rest := []) (As := [.long (g_slots q1.toNatClampNeg)]) (wr := [(a_this, .inr (7, [.ref a_slots, .ref a_script, .ref a_history, .ref a_sums, .ref a_addend, .ref a_grids, .ref a_pairings, .ref a_swellings, .ref a_smallestSets])), (a_slots, .inl (cL, 4, .inr (.inl g_slots))), (a_addend, .inr (6, [.ref a_addend_words])), (a_addend_words, .inl (cL, 4, .inr (.inl g_addend_words)))]) (wo := [(a_this, .inr (7, [.ref a_slots, .ref a_script, .ref a_history, .ref a_sums, .ref a_addend, .ref a_grids, .ref a_pairings, .ref a_swellings, .ref a_smallestSets])), (a_slots, .inl (cL, 4, .inr (.inl g_slots))), (a_sums, .inr (6, [.ref a_sums_words])), (a_sums_words, .inl (cL, 4, .inr (.inl u12))), (a_addend, .inr (6, [.ref a_addend_words])), (a_addend_words, .inl (cL, 4, .inr (.inl g_addend_words)))]) ⟨hx, hb, hml, hown, hts⟩ hN hP hD hS hA (cX6_become_ct l D cI cL cC cZ a_sums a_sums_words g_sums_words (g_slots q1.toNatClampNeg) u12 hu12) z9 2 6 rfl rfl [2, 3] [0, 1, 4, 5] [0, 1, 4, 5, 2, 3] rfl (by decide) rfl (by decide) (by decide) rfl (by decide) rfl hl.1 rfl (Nat.le_of_ble_eq_true rfl) dX7_times_30 ⟨Nat.zero_le _, Nat.zero_le _⟩ (fun H locs hP hD hS => ?_)
        refine lv_iconst (v := 1) hx hb dX7_times_33 (by decide) ?_
        refine lv_istore_n (lv' := [(3, .int (1 : Int32)), (0, .ref a_this), (1, .int q1), (2, .int q2)]) hx hb dX7_times_34 rfl hl (by decide) rfl (fun ls hl => ?_)
        exact w35 q1 q2 g_slots (1 : Int32) u12 g_addend_words (r0, v_sums_words, v_addend_words) H locs ls hf rfl hP hD hS (lv_sub hl [1, 2, 3, 0] rfl)
      · have hf := br_neg c10 hf
        refine lv_iconst (v := -1) hx hb dX7_times_18 (by decide) ?_
        have hE : ((-1 : Int32), g_sums_words, g_addend_words) = (r0, v_sums_words, v_addend_words) := Option.some.inj hf
        simp only [Prod.mk.injEq] at hE
        obtain ⟨rfl, rfl, rfl⟩ := hE
        exact rtI hx hb hr hlk hP hD hS dX7_times_19
abbrev rmX7_waysOf : Room := { frames := 2, cells := 0, slots := 0, locals := 42 }
noncomputable def bX7_waysOf_37 (x0 : Int64) (x2 : Int64) (x4 : Int32) (x5 : Int32) (x6 : Int32) : Option ((Int32 × Int32) ⊕ (Int32)) := lt_ (x6 + (1 : Int32)) (fun y1 => some (Sum.inl ((x5, y1))))
noncomputable def bX7_waysOf_6 (x0 : Int64) (x2 : Int64) (x4 : Int32) (x5 : Int32) (x6 : Int32) : Option ((Int32 × Int32) ⊕ (Int32)) := br ((40 : Int32) < x6) (some (Sum.inr (x5))) (bd (fX7_has x0 x6) (fun u3 => br (u3 = 0) (bX7_waysOf_37 x0 x2 x4 x5 x6) (bd (fX7_has x2 (x4 - x6)) (fun u5 => br (u5 = 0) (bX7_waysOf_37 x0 x2 x4 x5 x6) (lt_ (x5 + (1 : Int32)) (fun y7 => bX7_waysOf_37 x0 x2 x4 y7 x6))))))
noncomputable def sX7_waysOf_6 (x0 : Int64) (x2 : Int64) (x4 : Int32) : (Int32 × Int32) → Option ((Int32 × Int32) ⊕ (Int32)) := fun q => bX7_waysOf_6 x0 x2 x4 q.1 q.2
noncomputable def fX7_waysOf (q0 : Int64) (q2 : Int64) (q4 : Int32) : Option (Int32) := run (sX7_waysOf_6 q0 q2 q4) (((0 : Int32), (0 : Int32)))
set_option maxHeartbeats 4000000 in
set_option maxRecDepth 100000 in
theorem cX7_waysOf_ct (l : Launch) (D : va_G) (cI cL cC cZ : ClassId) (q0 : Int64) (q2 : Int64) (q4 : Int32) (r0 : Int32) (hf : fX7_waysOf q0 q2 q4 = some r0) : CtI l yX7_waysOf wsX7_waysOf rmX7_waysOf D (tyz cI cL cC cZ) [.long q0, .long q2, .int q4] [] [] r0 := by
  refine CtI.make (cc := cX7_waysOf) (maxL := 7) (ty := .int) (by decide) rfl (Nat.le_of_ble_eq_true rfl) ?_
  intro p e s m below meth c A ls C0 hN hA hP hD hl
  obtain ⟨hx, hb, hr, hml, hown, hts, hlk⟩ := id C0
  have hown : s.vm.findClass RX7 = some m.cls := hown
  have hS : va_S A s.heap s.heap [] := va_S.rf
  have hP : va_P D vwCl [] s.heap := hP
  have hD : va_D A [] := hD
  have hl : lv_has ls 7 [(0, .long q0), (2, .long q2), (4, .int q4)] := hl
  have z1 := va_cwS (R := rmX7_waysOf) (rm := rmX7_has) (mc := 0) (ms := 0) 2 hts gX7_waysOf_X7_has rfl rfl rfl (by decide +kernel) ⟨Nat.le_of_ble_eq_true rfl, Nat.le_of_ble_eq_true rfl⟩
  have w6 : ∀ (x0 : Int64) (x2 : Int64) (x4 : Int32) (x5 : Int32) (x6 : Int32) (t : Int32) (H : Heap) (locs : List Loc) (ls : Array Slot), run (sX7_waysOf_6 x0 x2 x4) ((x5, x6)) = some t → (fun z => z = r0) t → va_P D vwCl [] H → va_D A [] → va_S A s.heap H locs → lv_has ls 7 [(0, .long x0), (2, .long x2), (4, .int x4), (5, .int x5), (6, .int x6)] → W p l e rmX7_waysOf s m ([.long q0, .long q2, .int q4] : List Value).toArray below meth c H locs 0 0 (MQ below (cQi D r0 A []) ([.long q0, .long q2, .int q4] : List Value).toArray s 0 0 A) (F0 m 6 ls []) := by
    intro x0 x2 x4
    obtain ⟨F6, eF6⟩ : ∃ F : (Int32 × Int32) → Prop, F = fun q => ∀ (H : Heap) (locs : List Loc) (ls : Array Slot), va_P D vwCl [] H → va_D A [] → va_S A s.heap H locs → lv_has ls 7 [(0, .long x0), (2, .long x2), (4, .int x4), (5, .int q.1), (6, .int q.2)] → W p l e rmX7_waysOf s m ([.long q0, .long q2, .int q4] : List Value).toArray below meth c H locs 0 0 (MQ below (cQi D r0 A []) ([.long q0, .long q2, .int q4] : List Value).toArray s 0 0 A) (F0 m 6 ls []) := ⟨_, rfl⟩
    have key : ∀ (q : Int32 × Int32) (t : Int32), run (sX7_waysOf_6 x0 x2 x4) q = some t → (fun z => z = r0) t → F6 q := by
      refine loop_rule (sX7_waysOf_6 x0 x2 x4) F6 (fun z => z = r0) ?_
      intro q t hf hF
      have hF : (Sum.elim F6 (fun z => z = r0)) t := hF
      have w37 : ∀ (x5 : Int32) (x6 : Int32) (t : (Int32 × Int32) ⊕ (Int32)) (H : Heap) (locs : List Loc) (ls : Array Slot), bX7_waysOf_37 x0 x2 x4 x5 x6 = some t → (Sum.elim F6 (fun z => z = r0)) t → va_P D vwCl [] H → va_D A [] → va_S A s.heap H locs → lv_has ls 7 [(0, .long x0), (2, .long x2), (4, .int x4), (5, .int x5), (6, .int x6)] → W p l e rmX7_waysOf s m ([.long q0, .long q2, .int q4] : List Value).toArray below meth c H locs 0 0 (MQ below (cQi D r0 A []) ([.long q0, .long q2, .int q4] : List Value).toArray s 0 0 A) (F0 m 37 ls []) := by
        intro x5 x6 t H locs ls hf hF hP hD hS hl
        unfold bX7_waysOf_37 at hf
        obtain ⟨y1, ey1⟩ : ∃ z : Int32, z = x6 + (1 : Int32) := ⟨_, rfl⟩
        have hf := lt_some hf y1 ey1
        refine lv_iinc (v := y1) (lv' := [(6, .int y1), (0, .long x0), (2, .long x2), (4, .int x4), (5, .int x5)]) hx hb dX7_waysOf_37 hl (k := 4) rfl (by rw [ey1]; rfl) (by decide) rfl (fun ls hl => ?_)
        refine lv_goto (tgt := 6) hx hb dX7_waysOf_40 (by decide) ?_
        cases hf
        exact ((congrFun eF6 _).mp hF) H locs ls hP hD hS (lv_sub hl [1, 2, 3, 4, 0] rfl)
      rw [eF6]
      obtain ⟨x5, x6⟩ := q
      intro H locs ls hP hD hS hl
      have hP : va_P D vwCl [] H := hP
      have hD : va_D A [] := hD
      have hl : lv_has ls 7 [(0, .long x0), (2, .long x2), (4, .int x4), (5, .int x5), (6, .int x6)] := hl
      have hf : bX7_waysOf_6 x0 x2 x4 x5 x6 = some t := hf
      unfold bX7_waysOf_6 at hf
      refine lv_iload hx hb dX7_waysOf_6 (lv_at hl 4 rfl) ?_
      refine lv_bipush (v := 40) hx hb dX7_waysOf_8 (by decide) ?_
      refine lv_icmp_gt (tgt := 43) hx hb dX7_waysOf_10 (by decide) (fun c2 => ?_) (fun c2 => ?_)
      · have hf := br_pos c2 hf
        refine lv_iload hx hb dX7_waysOf_43 (lv_at hl 3 rfl) ?_
        cases hf
        have hE : x5 = r0 := hF
        subst hE
        exact rtI hx hb hr hlk hP hD hS dX7_waysOf_45
      · have hf := br_neg c2 hf
        refine lv_lload_n hx hb dX7_waysOf_13 rfl (lv_at hl 0 rfl) ?_
        refine lv_iload hx hb dX7_waysOf_14 (lv_at hl 4 rfl) ?_
        obtain ⟨u3, hu3, hf⟩ := bd_some hf
        refine caSI (rest := []) (As := [.long x0, .int x6]) (wr := []) (wo := []) ⟨hx, hb, hml, hown, hts⟩ hN hP hD hS hA (cX7_has_ct l D cI cL cC cZ x0 x6 u3 hu3) z1 [] [] [] rfl (by decide) rfl (by decide) (by decide) rfl (by decide) rfl hl.1 rfl (Nat.le_of_ble_eq_true rfl) dX7_waysOf_16 ⟨Nat.zero_le _, Nat.zero_le _⟩ (fun H locs hP hD hS => ?_)
        refine lv_if_eq (tgt := 37) hx hb dX7_waysOf_19 (by decide) (fun c4 => ?_) (fun c4 => ?_)
        · have hf := br_pos c4 hf
          exact w37 x5 x6 _ H locs ls hf hF hP hD hS (lv_sub hl [0, 1, 2, 3, 4] rfl)
        · have hf := br_neg c4 hf
          refine lv_lload_n hx hb dX7_waysOf_22 rfl (lv_at hl 1 rfl) ?_
          refine lv_iload hx hb dX7_waysOf_23 (lv_at hl 2 rfl) ?_
          refine lv_iload hx hb dX7_waysOf_25 (lv_at hl 4 rfl) ?_
          refine lv_isub hx hb dX7_waysOf_27 ?_
          obtain ⟨u5, hu5, hf⟩ := bd_some hf
          refine caSI (rest := []) (As := [.long x2, .int (x4 - x6)]) (wr := []) (wo := []) ⟨hx, hb, hml, hown, hts⟩ hN hP hD hS hA (cX7_has_ct l D cI cL cC cZ x2 (x4 - x6) u5 hu5) z1 [] [] [] rfl (by decide) rfl (by decide) (by decide) rfl (by decide) rfl hl.1 rfl (Nat.le_of_ble_eq_true rfl) dX7_waysOf_28 ⟨Nat.zero_le _, Nat.zero_le _⟩ (fun H locs hP hD hS => ?_)
          refine lv_if_eq (tgt := 37) hx hb dX7_waysOf_31 (by decide) (fun c6 => ?_) (fun c6 => ?_)
          · have hf := br_pos c6 hf
            exact w37 x5 x6 _ H locs ls hf hF hP hD hS (lv_sub hl [0, 1, 2, 3, 4] rfl)
          · have hf := br_neg c6 hf
            obtain ⟨y7, ey7⟩ : ∃ z : Int32, z = x5 + (1 : Int32) := ⟨_, rfl⟩
            have hf := lt_some hf y7 ey7
            refine lv_iinc (v := y7) (lv' := [(5, .int y7), (0, .long x0), (2, .long x2), (4, .int x4), (6, .int x6)]) hx hb dX7_waysOf_34 hl (k := 3) rfl (by rw [ey7]; rfl) (by decide) rfl (fun ls hl => ?_)
            exact w37 y7 x6 _ H locs ls hf hF hP hD hS (lv_sub hl [1, 2, 3, 0, 4] rfl)
    intro x5 x6 t H locs ls hf hF hP hD hS hl
    exact ((congrFun eF6 _).mp (key ((x5, x6)) t hf hF)) H locs ls hP hD hS hl
  unfold fX7_waysOf at hf
  obtain ⟨H, eH⟩ : ∃ z, z = s.heap := ⟨_, rfl⟩
  obtain ⟨locs, eL⟩ : ∃ z : List Loc, z = [] := ⟨_, rfl⟩
  have hP : va_P D vwCl [] H := by rw [eH]; exact hP
  have hS : va_S A s.heap H locs := by rw [eH, eL]; exact hS
  suffices hG : W p l e rmX7_waysOf s m ([.long q0, .long q2, .int q4] : List Value).toArray below meth c H locs 0 0 (MQ below (cQi D r0 A []) ([.long q0, .long q2, .int q4] : List Value).toArray s 0 0 A) (F0 m 0 ls []) by rw [eH, eL] at hG; exact hG
  refine lv_iconst (v := 0) hx hb dX7_waysOf_0 (by decide) ?_
  refine lv_istore (lv' := [(5, .int (0 : Int32)), (0, .long q0), (2, .long q2), (4, .int q4)]) hx hb dX7_waysOf_1 hl (by decide) rfl (fun ls hl => ?_)
  refine lv_iconst (v := 0) hx hb dX7_waysOf_3 (by decide) ?_
  refine lv_istore (lv' := [(6, .int (0 : Int32)), (5, .int (0 : Int32)), (0, .long q0), (2, .long q2), (4, .int q4)]) hx hb dX7_waysOf_4 hl (by decide) rfl (fun ls hl => ?_)
  exact w6 q0 q2 q4 (0 : Int32) (0 : Int32) r0 H locs ls hf rfl hP hD hS (lv_sub hl [2, 3, 4, 1, 0] rfl)
abbrev rmX7_ways : Room := { frames := 3, cells := 0, slots := 0, locals := 68 }
noncomputable def fX7_ways (q1 : Int32) (q2 : Int32) (q3 : Int32) (g_slots : Nat → Int64) : Option (Int32) := bd (fX7_isSlot q1) (fun u1 => br (u1 = 0) (some ((-1 : Int32))) (bd (fX7_isSlot q2) (fun u3 => br (u3 = 0) (some ((-1 : Int32))) (br (q3 < 0) (some ((-1 : Int32))) (br (q3 ≤ (80 : Int32)) (gd (¬ q1 < 0 ∧ q1.toNatClampNeg < 4) (gd (¬ q2 < 0 ∧ q2.toNatClampNeg < 4) (bd (fX7_waysOf (g_slots q1.toNatClampNeg) (g_slots q2.toNatClampNeg) q3) (fun u9 => some (u9))))) (some ((-1 : Int32))))))))
set_option maxHeartbeats 4000000 in
set_option maxRecDepth 100000 in
theorem cX7_ways_ct (l : Launch) (D : va_G) (cI cL cC cZ : ClassId) (a_this a_slots a_script a_history a_sums a_addend a_grids a_pairings a_swellings a_smallestSets : Nat) (g_slots : Nat → Int64) (q1 : Int32) (q2 : Int32) (q3 : Int32) (r0 : Int32) (hf : fX7_ways q1 q2 q3 g_slots = some r0) : CtI l yX7_ways wsX7_ways rmX7_ways D (tyz cI cL cC cZ) [.ref a_this, .int q1, .int q2, .int q3] [(a_this, .inr (7, [.ref a_slots, .ref a_script, .ref a_history, .ref a_sums, .ref a_addend, .ref a_grids, .ref a_pairings, .ref a_swellings, .ref a_smallestSets])), (a_slots, .inl (cL, 4, .inr (.inl g_slots)))] [(a_this, .inr (7, [.ref a_slots, .ref a_script, .ref a_history, .ref a_sums, .ref a_addend, .ref a_grids, .ref a_pairings, .ref a_swellings, .ref a_smallestSets])), (a_slots, .inl (cL, 4, .inr (.inl g_slots)))] r0 := by
  refine CtI.make (cc := cX7_ways) (maxL := 4) (ty := .int) (by decide) rfl (Nat.le_of_ble_eq_true rfl) ?_
  intro p e s m below meth c A ls C0 hN hA hP hD hl
  obtain ⟨hx, hb, hr, hml, hown, hts, hlk⟩ := id C0
  have hown : s.vm.findClass RX7 = some m.cls := hown
  have hS : va_S A s.heap s.heap [] := va_S.rf
  have hP : va_P D vwCl [(a_this, .inr (7, [.ref a_slots, .ref a_script, .ref a_history, .ref a_sums, .ref a_addend, .ref a_grids, .ref a_pairings, .ref a_swellings, .ref a_smallestSets])), (a_slots, .inl (cL, 4, .inr (.inl g_slots)))] s.heap := hP
  have hD : va_D A [(a_this, .inr (7, [.ref a_slots, .ref a_script, .ref a_history, .ref a_sums, .ref a_addend, .ref a_grids, .ref a_pairings, .ref a_swellings, .ref a_smallestSets])), (a_slots, .inl (cL, 4, .inr (.inl g_slots)))] := hD
  have hl : lv_has ls 4 [(0, .ref a_this), (1, .int q1), (2, .int q2), (3, .int q3)] := hl
  have z1 := va_cwS (R := rmX7_ways) (rm := rmX7_isSlot) (mc := 0) (ms := 0) 1 hts gX7_ways_X7_isSlot rfl rfl rfl (by decide +kernel) ⟨Nat.le_of_ble_eq_true rfl, Nat.le_of_ble_eq_true rfl⟩
  have z2 : ∀ w ∈ u_ws RX7 TX7 9, w ∈ wsX7_ways := by decide +kernel
  have z3 := hts (.fieldLink RX7 9 "LittleSums" "slots" "[J") (by decide +kernel)
  have z4 := va_cwS (R := rmX7_ways) (rm := rmX7_waysOf) (mc := 0) (ms := 0) 3 hts gX7_ways_X7_waysOf rfl rfl rfl (by decide +kernel) ⟨Nat.le_of_ble_eq_true rfl, Nat.le_of_ble_eq_true rfl⟩
  unfold fX7_ways at hf
  obtain ⟨H, eH⟩ : ∃ z, z = s.heap := ⟨_, rfl⟩
  obtain ⟨locs, eL⟩ : ∃ z : List Loc, z = [] := ⟨_, rfl⟩
  have hP : va_P D vwCl [(a_this, .inr (7, [.ref a_slots, .ref a_script, .ref a_history, .ref a_sums, .ref a_addend, .ref a_grids, .ref a_pairings, .ref a_swellings, .ref a_smallestSets])), (a_slots, .inl (cL, 4, .inr (.inl g_slots)))] H := by rw [eH]; exact hP
  have hS : va_S A s.heap H locs := by rw [eH, eL]; exact hS
  suffices hG : W p l e rmX7_ways s m ([.ref a_this, .int q1, .int q2, .int q3] : List Value).toArray below meth c H locs 0 0 (MQ below (cQi D r0 A [(a_this, .inr (7, [.ref a_slots, .ref a_script, .ref a_history, .ref a_sums, .ref a_addend, .ref a_grids, .ref a_pairings, .ref a_swellings, .ref a_smallestSets])), (a_slots, .inl (cL, 4, .inr (.inl g_slots)))]) ([.ref a_this, .int q1, .int q2, .int q3] : List Value).toArray s 0 0 A) (F0 m 0 ls []) by rw [eH, eL] at hG; exact hG
  refine lv_iload_n hx hb dX7_ways_0 rfl (lv_at hl 1 rfl) ?_
  obtain ⟨u1, hu1, hf⟩ := bd_some hf
  refine caSI (rest := []) (As := [.int q1]) (wr := [(a_this, .inr (7, [.ref a_slots, .ref a_script, .ref a_history, .ref a_sums, .ref a_addend, .ref a_grids, .ref a_pairings, .ref a_swellings, .ref a_smallestSets])), (a_slots, .inl (cL, 4, .inr (.inl g_slots)))]) (wo := [(a_this, .inr (7, [.ref a_slots, .ref a_script, .ref a_history, .ref a_sums, .ref a_addend, .ref a_grids, .ref a_pairings, .ref a_swellings, .ref a_smallestSets])), (a_slots, .inl (cL, 4, .inr (.inl g_slots)))]) ⟨hx, hb, hml, hown, hts⟩ hN hP hD hS hA (cX7_isSlot_ct l D cI cL cC cZ q1 u1 hu1) z1 [] [0, 1] [0, 1] rfl (by decide) rfl (by decide) (by decide) rfl (by decide) rfl hl.1 rfl (Nat.le_of_ble_eq_true rfl) dX7_ways_1 ⟨Nat.zero_le _, Nat.zero_le _⟩ (fun H locs hP hD hS => ?_)
  refine lv_if_eq (tgt := 24) hx hb dX7_ways_4 (by decide) (fun c2 => ?_) (fun c2 => ?_)
  · have hf := br_pos c2 hf
    refine lv_iconst (v := -1) hx hb dX7_ways_24 (by decide) ?_
    have hE : (-1 : Int32) = r0 := Option.some.inj hf
    subst hE
    exact rtI hx hb hr hlk hP hD hS dX7_ways_25
  · have hf := br_neg c2 hf
    refine lv_iload_n hx hb dX7_ways_7 rfl (lv_at hl 2 rfl) ?_
    obtain ⟨u3, hu3, hf⟩ := bd_some hf
    refine caSI (rest := []) (As := [.int q2]) (wr := [(a_this, .inr (7, [.ref a_slots, .ref a_script, .ref a_history, .ref a_sums, .ref a_addend, .ref a_grids, .ref a_pairings, .ref a_swellings, .ref a_smallestSets])), (a_slots, .inl (cL, 4, .inr (.inl g_slots)))]) (wo := [(a_this, .inr (7, [.ref a_slots, .ref a_script, .ref a_history, .ref a_sums, .ref a_addend, .ref a_grids, .ref a_pairings, .ref a_swellings, .ref a_smallestSets])), (a_slots, .inl (cL, 4, .inr (.inl g_slots)))]) ⟨hx, hb, hml, hown, hts⟩ hN hP hD hS hA (cX7_isSlot_ct l D cI cL cC cZ q2 u3 hu3) z1 [] [0, 1] [0, 1] rfl (by decide) rfl (by decide) (by decide) rfl (by decide) rfl hl.1 rfl (Nat.le_of_ble_eq_true rfl) dX7_ways_8 ⟨Nat.zero_le _, Nat.zero_le _⟩ (fun H locs hP hD hS => ?_)
    refine lv_if_eq (tgt := 24) hx hb dX7_ways_11 (by decide) (fun c4 => ?_) (fun c4 => ?_)
    · have hf := br_pos c4 hf
      refine lv_iconst (v := -1) hx hb dX7_ways_24 (by decide) ?_
      have hE : (-1 : Int32) = r0 := Option.some.inj hf
      subst hE
      exact rtI hx hb hr hlk hP hD hS dX7_ways_25
    · have hf := br_neg c4 hf
      refine lv_iload_n hx hb dX7_ways_14 rfl (lv_at hl 3 rfl) ?_
      refine lv_if_lt (tgt := 24) hx hb dX7_ways_15 (by decide) (fun c5 => ?_) (fun c5 => ?_)
      · have hf := br_pos c5 hf
        refine lv_iconst (v := -1) hx hb dX7_ways_24 (by decide) ?_
        have hE : (-1 : Int32) = r0 := Option.some.inj hf
        subst hE
        exact rtI hx hb hr hlk hP hD hS dX7_ways_25
      · have hf := br_neg c5 hf
        refine lv_iload_n hx hb dX7_ways_18 rfl (lv_at hl 3 rfl) ?_
        refine lv_bipush (v := 80) hx hb dX7_ways_19 (by decide) ?_
        refine lv_icmp_le (tgt := 26) hx hb dX7_ways_21 (by decide) (fun c6 => ?_) (fun c6 => ?_)
        · have hf := br_pos c6 hf
          refine lv_aload_n hx hb dX7_ways_26 rfl (lv_at hl 0 rfl) ?_
          refine va_get (D := D) (ci := 7) (v := .ref a_slots) (C := RX7) (T := TX7) (N := 9) hx hb hts z2 hown hN.1 hP 0 rfl rfl 0 (by decide) z3 (fun _ h9 => h9) rfl dX7_ways_27 ?_
          refine lv_iload_n hx hb dX7_ways_30 rfl (lv_at hl 1 rfl) ?_
          obtain ⟨c7, hf⟩ := gd_some hf
          refine va_lald hx hb hN.1 hP 1 1 rfl rfl (ix_in c7) dX7_ways_31 ?_
          refine lv_aload_n hx hb dX7_ways_32 rfl (lv_at hl 0 rfl) ?_
          refine va_get (D := D) (ci := 7) (v := .ref a_slots) (C := RX7) (T := TX7) (N := 9) hx hb hts z2 hown hN.1 hP 0 rfl rfl 0 (by decide) z3 (fun _ h9 => h9) rfl dX7_ways_33 ?_
          refine lv_iload_n hx hb dX7_ways_36 rfl (lv_at hl 2 rfl) ?_
          obtain ⟨c8, hf⟩ := gd_some hf
          refine va_lald hx hb hN.1 hP 1 1 rfl rfl (ix_in c8) dX7_ways_37 ?_
          refine lv_iload_n hx hb dX7_ways_38 rfl (lv_at hl 3 rfl) ?_
          obtain ⟨u9, hu9, hf⟩ := bd_some hf
          refine caSI (rest := []) (As := [.long (g_slots q1.toNatClampNeg), .long (g_slots q2.toNatClampNeg), .int q3]) (wr := [(a_this, .inr (7, [.ref a_slots, .ref a_script, .ref a_history, .ref a_sums, .ref a_addend, .ref a_grids, .ref a_pairings, .ref a_swellings, .ref a_smallestSets])), (a_slots, .inl (cL, 4, .inr (.inl g_slots)))]) (wo := [(a_this, .inr (7, [.ref a_slots, .ref a_script, .ref a_history, .ref a_sums, .ref a_addend, .ref a_grids, .ref a_pairings, .ref a_swellings, .ref a_smallestSets])), (a_slots, .inl (cL, 4, .inr (.inl g_slots)))]) ⟨hx, hb, hml, hown, hts⟩ hN hP hD hS hA (cX7_waysOf_ct l D cI cL cC cZ (g_slots q1.toNatClampNeg) (g_slots q2.toNatClampNeg) q3 u9 hu9) z4 [] [0, 1] [0, 1] rfl (by decide) rfl (by decide) (by decide) rfl (by decide) rfl hl.1 rfl (Nat.le_of_ble_eq_true rfl) dX7_ways_39 ⟨Nat.zero_le _, Nat.zero_le _⟩ (fun H locs hP hD hS => ?_)
          have hE : u9 = r0 := Option.some.inj hf
          subst hE
          exact rtI hx hb hr hlk hP hD hS dX7_ways_42
        · have hf := br_neg c6 hf
          refine lv_iconst (v := -1) hx hb dX7_ways_24 (by decide) ?_
          have hE : (-1 : Int32) = r0 := Option.some.inj hf
          subst hE
          exact rtI hx hb hr hlk hP hD hS dX7_ways_25
abbrev rmX7_energy : Room := { frames := 3, cells := 0, slots := 0, locals := 68 }
noncomputable def bX7_energy_13 (x1 : Int32) (g_slots : Nat → Int64) (x2 : Int32) (x3 : Int32) : Option ((Int32 × Int32) ⊕ (Int32)) := br ((80 : Int32) < x3) (some (Sum.inr (x2))) (gd (¬ x1 < 0 ∧ x1.toNatClampNeg < 4) (gd (¬ x1 < 0 ∧ x1.toNatClampNeg < 4) (bd (fX7_waysOf (g_slots x1.toNatClampNeg) (g_slots x1.toNatClampNeg) x3) (fun u4 => lt_ (x2 + (u4 * u4)) (fun y5 => lt_ (x3 + (1 : Int32)) (fun y6 => some (Sum.inl ((y5, y6)))))))))
noncomputable def sX7_energy_13 (x1 : Int32) (g_slots : Nat → Int64) : (Int32 × Int32) → Option ((Int32 × Int32) ⊕ (Int32)) := fun q => bX7_energy_13 x1 g_slots q.1 q.2
noncomputable def fX7_energy (q1 : Int32) (g_slots : Nat → Int64) : Option (Int32) := bd (fX7_isSlot q1) (fun u7 => br (u7 = 0) (some ((-1 : Int32))) (run (sX7_energy_13 q1 g_slots) (((0 : Int32), (0 : Int32)))))
set_option maxHeartbeats 4000000 in
set_option maxRecDepth 100000 in
theorem cX7_energy_ct (l : Launch) (D : va_G) (cI cL cC cZ : ClassId) (a_this a_slots a_script a_history a_sums a_addend a_grids a_pairings a_swellings a_smallestSets : Nat) (g_slots : Nat → Int64) (q1 : Int32) (r0 : Int32) (hf : fX7_energy q1 g_slots = some r0) : CtI l yX7_energy wsX7_energy rmX7_energy D (tyz cI cL cC cZ) [.ref a_this, .int q1] [(a_this, .inr (7, [.ref a_slots, .ref a_script, .ref a_history, .ref a_sums, .ref a_addend, .ref a_grids, .ref a_pairings, .ref a_swellings, .ref a_smallestSets])), (a_slots, .inl (cL, 4, .inr (.inl g_slots)))] [(a_this, .inr (7, [.ref a_slots, .ref a_script, .ref a_history, .ref a_sums, .ref a_addend, .ref a_grids, .ref a_pairings, .ref a_swellings, .ref a_smallestSets])), (a_slots, .inl (cL, 4, .inr (.inl g_slots)))] r0 := by
  refine CtI.make (cc := cX7_energy) (maxL := 5) (ty := .int) (by decide) rfl (Nat.le_of_ble_eq_true rfl) ?_
  intro p e s m below meth c A ls C0 hN hA hP hD hl
  obtain ⟨hx, hb, hr, hml, hown, hts, hlk⟩ := id C0
  have hown : s.vm.findClass RX7 = some m.cls := hown
  have hS : va_S A s.heap s.heap [] := va_S.rf
  have hP : va_P D vwCl [(a_this, .inr (7, [.ref a_slots, .ref a_script, .ref a_history, .ref a_sums, .ref a_addend, .ref a_grids, .ref a_pairings, .ref a_swellings, .ref a_smallestSets])), (a_slots, .inl (cL, 4, .inr (.inl g_slots)))] s.heap := hP
  have hD : va_D A [(a_this, .inr (7, [.ref a_slots, .ref a_script, .ref a_history, .ref a_sums, .ref a_addend, .ref a_grids, .ref a_pairings, .ref a_swellings, .ref a_smallestSets])), (a_slots, .inl (cL, 4, .inr (.inl g_slots)))] := hD
  have hl : lv_has ls 5 [(0, .ref a_this), (1, .int q1)] := hl
  have z1 : ∀ w ∈ u_ws RX7 TX7 9, w ∈ wsX7_energy := by decide +kernel
  have z2 := hts (.fieldLink RX7 9 "LittleSums" "slots" "[J") (by decide +kernel)
  have z3 := va_cwS (R := rmX7_energy) (rm := rmX7_waysOf) (mc := 0) (ms := 0) 3 hts gX7_energy_X7_waysOf rfl rfl rfl (by decide +kernel) ⟨Nat.le_of_ble_eq_true rfl, Nat.le_of_ble_eq_true rfl⟩
  have z4 := va_cwS (R := rmX7_energy) (rm := rmX7_isSlot) (mc := 0) (ms := 0) 1 hts gX7_energy_X7_isSlot rfl rfl rfl (by decide +kernel) ⟨Nat.le_of_ble_eq_true rfl, Nat.le_of_ble_eq_true rfl⟩
  have w13 : ∀ (x1 : Int32) (g_slots : Nat → Int64) (x2 : Int32) (x3 : Int32) (t : Int32) (H : Heap) (locs : List Loc) (ls : Array Slot), run (sX7_energy_13 x1 g_slots) ((x2, x3)) = some t → (fun z => z = r0) t → va_P D vwCl [(a_this, .inr (7, [.ref a_slots, .ref a_script, .ref a_history, .ref a_sums, .ref a_addend, .ref a_grids, .ref a_pairings, .ref a_swellings, .ref a_smallestSets])), (a_slots, .inl (cL, 4, .inr (.inl g_slots)))] H → va_D A [(a_this, .inr (7, [.ref a_slots, .ref a_script, .ref a_history, .ref a_sums, .ref a_addend, .ref a_grids, .ref a_pairings, .ref a_swellings, .ref a_smallestSets])), (a_slots, .inl (cL, 4, .inr (.inl g_slots)))] → va_S A s.heap H locs → lv_has ls 5 [(0, .ref a_this), (1, .int x1), (2, .int x2), (3, .int x3)] → W p l e rmX7_energy s m ([.ref a_this, .int q1] : List Value).toArray below meth c H locs 0 0 (MQ below (cQi D r0 A [(a_this, .inr (7, [.ref a_slots, .ref a_script, .ref a_history, .ref a_sums, .ref a_addend, .ref a_grids, .ref a_pairings, .ref a_swellings, .ref a_smallestSets])), (a_slots, .inl (cL, 4, .inr (.inl g_slots)))]) ([.ref a_this, .int q1] : List Value).toArray s 0 0 A) (F0 m 13 ls []) := by
    intro x1 g_slots
    obtain ⟨F13, eF13⟩ : ∃ F : (Int32 × Int32) → Prop, F = fun q => ∀ (H : Heap) (locs : List Loc) (ls : Array Slot), va_P D vwCl [(a_this, .inr (7, [.ref a_slots, .ref a_script, .ref a_history, .ref a_sums, .ref a_addend, .ref a_grids, .ref a_pairings, .ref a_swellings, .ref a_smallestSets])), (a_slots, .inl (cL, 4, .inr (.inl g_slots)))] H → va_D A [(a_this, .inr (7, [.ref a_slots, .ref a_script, .ref a_history, .ref a_sums, .ref a_addend, .ref a_grids, .ref a_pairings, .ref a_swellings, .ref a_smallestSets])), (a_slots, .inl (cL, 4, .inr (.inl g_slots)))] → va_S A s.heap H locs → lv_has ls 5 [(0, .ref a_this), (1, .int x1), (2, .int q.1), (3, .int q.2)] → W p l e rmX7_energy s m ([.ref a_this, .int q1] : List Value).toArray below meth c H locs 0 0 (MQ below (cQi D r0 A [(a_this, .inr (7, [.ref a_slots, .ref a_script, .ref a_history, .ref a_sums, .ref a_addend, .ref a_grids, .ref a_pairings, .ref a_swellings, .ref a_smallestSets])), (a_slots, .inl (cL, 4, .inr (.inl g_slots)))]) ([.ref a_this, .int q1] : List Value).toArray s 0 0 A) (F0 m 13 ls []) := ⟨_, rfl⟩
    have key : ∀ (q : Int32 × Int32) (t : Int32), run (sX7_energy_13 x1 g_slots) q = some t → (fun z => z = r0) t → F13 q := by
      refine loop_rule (sX7_energy_13 x1 g_slots) F13 (fun z => z = r0) ?_
      intro q t hf hF
      have hF : (Sum.elim F13 (fun z => z = r0)) t := hF
      rw [eF13]
      obtain ⟨x2, x3⟩ := q
      intro H locs ls hP hD hS hl
      have hP : va_P D vwCl [(a_this, .inr (7, [.ref a_slots, .ref a_script, .ref a_history, .ref a_sums, .ref a_addend, .ref a_grids, .ref a_pairings, .ref a_swellings, .ref a_smallestSets])), (a_slots, .inl (cL, 4, .inr (.inl g_slots)))] H := hP
      have hD : va_D A [(a_this, .inr (7, [.ref a_slots, .ref a_script, .ref a_history, .ref a_sums, .ref a_addend, .ref a_grids, .ref a_pairings, .ref a_swellings, .ref a_smallestSets])), (a_slots, .inl (cL, 4, .inr (.inl g_slots)))] := hD
      have hl : lv_has ls 5 [(0, .ref a_this), (1, .int x1), (2, .int x2), (3, .int x3)] := hl
      have hf : bX7_energy_13 x1 g_slots x2 x3 = some t := hf
      unfold bX7_energy_13 at hf
      refine lv_iload_n hx hb dX7_energy_13 rfl (lv_at hl 3 rfl) ?_
      refine lv_bipush (v := 80) hx hb dX7_energy_14 (by decide) ?_
      refine lv_icmp_gt (tgt := 51) hx hb dX7_energy_16 (by decide) (fun c1 => ?_) (fun c1 => ?_)
      · have hf := br_pos c1 hf
        refine lv_iload_n hx hb dX7_energy_51 rfl (lv_at hl 2 rfl) ?_
        cases hf
        have hE : x2 = r0 := hF
        subst hE
        exact rtI hx hb hr hlk hP hD hS dX7_energy_52
      · have hf := br_neg c1 hf
        refine lv_aload_n hx hb dX7_energy_19 rfl (lv_at hl 0 rfl) ?_
        refine va_get (D := D) (ci := 7) (v := .ref a_slots) (C := RX7) (T := TX7) (N := 9) hx hb hts z1 hown hN.1 hP 0 rfl rfl 0 (by decide) z2 (fun _ h9 => h9) rfl dX7_energy_20 ?_
        refine lv_iload_n hx hb dX7_energy_23 rfl (lv_at hl 1 rfl) ?_
        obtain ⟨c2, hf⟩ := gd_some hf
        refine va_lald hx hb hN.1 hP 1 1 rfl rfl (ix_in c2) dX7_energy_24 ?_
        refine lv_aload_n hx hb dX7_energy_25 rfl (lv_at hl 0 rfl) ?_
        refine va_get (D := D) (ci := 7) (v := .ref a_slots) (C := RX7) (T := TX7) (N := 9) hx hb hts z1 hown hN.1 hP 0 rfl rfl 0 (by decide) z2 (fun _ h9 => h9) rfl dX7_energy_26 ?_
        refine lv_iload_n hx hb dX7_energy_29 rfl (lv_at hl 1 rfl) ?_
        obtain ⟨c3, hf⟩ := gd_some hf
        refine va_lald hx hb hN.1 hP 1 1 rfl rfl (ix_in c3) dX7_energy_30 ?_
        refine lv_iload_n hx hb dX7_energy_31 rfl (lv_at hl 3 rfl) ?_
        obtain ⟨u4, hu4, hf⟩ := bd_some hf
        refine caSI (rest := []) (As := [.long (g_slots x1.toNatClampNeg), .long (g_slots x1.toNatClampNeg), .int x3]) (wr := [(a_this, .inr (7, [.ref a_slots, .ref a_script, .ref a_history, .ref a_sums, .ref a_addend, .ref a_grids, .ref a_pairings, .ref a_swellings, .ref a_smallestSets])), (a_slots, .inl (cL, 4, .inr (.inl g_slots)))]) (wo := [(a_this, .inr (7, [.ref a_slots, .ref a_script, .ref a_history, .ref a_sums, .ref a_addend, .ref a_grids, .ref a_pairings, .ref a_swellings, .ref a_smallestSets])), (a_slots, .inl (cL, 4, .inr (.inl g_slots)))]) ⟨hx, hb, hml, hown, hts⟩ hN hP hD hS hA (cX7_waysOf_ct l D cI cL cC cZ (g_slots x1.toNatClampNeg) (g_slots x1.toNatClampNeg) x3 u4 hu4) z3 [] [0, 1] [0, 1] rfl (by decide) rfl (by decide) (by decide) rfl (by decide) rfl hl.1 rfl (Nat.le_of_ble_eq_true rfl) dX7_energy_32 ⟨Nat.zero_le _, Nat.zero_le _⟩ (fun H locs hP hD hS => ?_)
        refine lv_istore (lv' := [(4, .int u4), (0, .ref a_this), (1, .int x1), (2, .int x2), (3, .int x3)]) hx hb dX7_energy_35 hl (by decide) rfl (fun ls hl => ?_)
        refine lv_iload_n hx hb dX7_energy_37 rfl (lv_at hl 3 rfl) ?_
        refine lv_iload hx hb dX7_energy_38 (lv_at hl 0 rfl) ?_
        refine lv_iload hx hb dX7_energy_40 (lv_at hl 0 rfl) ?_
        refine lv_imul hx hb dX7_energy_42 ?_
        refine lv_iadd hx hb dX7_energy_43 ?_
        refine lv_topi (fun y5 ey5 => ?_)
        have hf := lt_some hf y5 ey5
        refine lv_istore_n (lv' := [(2, .int y5), (4, .int u4), (0, .ref a_this), (1, .int x1), (3, .int x3)]) hx hb dX7_energy_44 rfl hl (by decide) rfl (fun ls hl => ?_)
        obtain ⟨y6, ey6⟩ : ∃ z : Int32, z = x3 + (1 : Int32) := ⟨_, rfl⟩
        have hf := lt_some hf y6 ey6
        refine lv_iinc (v := y6) (lv' := [(3, .int y6), (2, .int y5), (4, .int u4), (0, .ref a_this), (1, .int x1)]) hx hb dX7_energy_45 hl (k := 4) rfl (by rw [ey6]; rfl) (by decide) rfl (fun ls hl => ?_)
        refine lv_goto (tgt := 13) hx hb dX7_energy_48 (by decide) ?_
        cases hf
        exact ((congrFun eF13 _).mp hF) H locs ls hP hD hS (lv_sub hl [3, 4, 1, 0] rfl)
    intro x2 x3 t H locs ls hf hF hP hD hS hl
    exact ((congrFun eF13 _).mp (key ((x2, x3)) t hf hF)) H locs ls hP hD hS hl
  unfold fX7_energy at hf
  obtain ⟨H, eH⟩ : ∃ z, z = s.heap := ⟨_, rfl⟩
  obtain ⟨locs, eL⟩ : ∃ z : List Loc, z = [] := ⟨_, rfl⟩
  have hP : va_P D vwCl [(a_this, .inr (7, [.ref a_slots, .ref a_script, .ref a_history, .ref a_sums, .ref a_addend, .ref a_grids, .ref a_pairings, .ref a_swellings, .ref a_smallestSets])), (a_slots, .inl (cL, 4, .inr (.inl g_slots)))] H := by rw [eH]; exact hP
  have hS : va_S A s.heap H locs := by rw [eH, eL]; exact hS
  suffices hG : W p l e rmX7_energy s m ([.ref a_this, .int q1] : List Value).toArray below meth c H locs 0 0 (MQ below (cQi D r0 A [(a_this, .inr (7, [.ref a_slots, .ref a_script, .ref a_history, .ref a_sums, .ref a_addend, .ref a_grids, .ref a_pairings, .ref a_swellings, .ref a_smallestSets])), (a_slots, .inl (cL, 4, .inr (.inl g_slots)))]) ([.ref a_this, .int q1] : List Value).toArray s 0 0 A) (F0 m 0 ls []) by rw [eH, eL] at hG; exact hG
  refine lv_iload_n hx hb dX7_energy_0 rfl (lv_at hl 1 rfl) ?_
  obtain ⟨u7, hu7, hf⟩ := bd_some hf
  refine caSI (rest := []) (As := [.int q1]) (wr := [(a_this, .inr (7, [.ref a_slots, .ref a_script, .ref a_history, .ref a_sums, .ref a_addend, .ref a_grids, .ref a_pairings, .ref a_swellings, .ref a_smallestSets])), (a_slots, .inl (cL, 4, .inr (.inl g_slots)))]) (wo := [(a_this, .inr (7, [.ref a_slots, .ref a_script, .ref a_history, .ref a_sums, .ref a_addend, .ref a_grids, .ref a_pairings, .ref a_swellings, .ref a_smallestSets])), (a_slots, .inl (cL, 4, .inr (.inl g_slots)))]) ⟨hx, hb, hml, hown, hts⟩ hN hP hD hS hA (cX7_isSlot_ct l D cI cL cC cZ q1 u7 hu7) z4 [] [0, 1] [0, 1] rfl (by decide) rfl (by decide) (by decide) rfl (by decide) rfl hl.1 rfl (Nat.le_of_ble_eq_true rfl) dX7_energy_1 ⟨Nat.zero_le _, Nat.zero_le _⟩ (fun H locs hP hD hS => ?_)
  refine lv_if_ne (tgt := 9) hx hb dX7_energy_4 (by decide) (fun c8 => ?_) (fun c8 => ?_)
  · have hf := br_neg c8 hf
    refine lv_iconst (v := 0) hx hb dX7_energy_9 (by decide) ?_
    refine lv_istore_n (lv' := [(2, .int (0 : Int32)), (0, .ref a_this), (1, .int q1)]) hx hb dX7_energy_10 rfl hl (by decide) rfl (fun ls hl => ?_)
    refine lv_iconst (v := 0) hx hb dX7_energy_11 (by decide) ?_
    refine lv_istore_n (lv' := [(3, .int (0 : Int32)), (2, .int (0 : Int32)), (0, .ref a_this), (1, .int q1)]) hx hb dX7_energy_12 rfl hl (by decide) rfl (fun ls hl => ?_)
    exact w13 q1 g_slots (0 : Int32) (0 : Int32) r0 H locs ls hf rfl hP hD hS (lv_sub hl [2, 3, 1, 0] rfl)
  · have hf := br_pos c8 hf
    refine lv_iconst (v := -1) hx hb dX7_energy_7 (by decide) ?_
    have hE : (-1 : Int32) = r0 := Option.some.inj hf
    subst hE
    exact rtI hx hb hr hlk hP hD hS dX7_energy_8
abbrev rmX7_coverStep : Room := { frames := 3, cells := 0, slots := 0, locals := 64 }
noncomputable def bX7_coverStep_37 (x0 : Int64) (x2 : Int32) (x3 : Int32) (x4 : Int32) : Option ((Int32 × Int32) ⊕ (Int32)) := lt_ (x4 + (1 : Int32)) (fun y1 => some (Sum.inl ((x3, y1))))
noncomputable def bX7_coverStep_12 (x0 : Int64) (x2 : Int32) (x3 : Int32) (x4 : Int32) : Option ((Int32 × Int32) ⊕ (Int32)) := br ((40 : Int32) < x4) (br (x3 = 0) (some (Sum.inr ((1 : Int32)))) (some (Sum.inr (x3)))) (bd (fX7_has x0 x4) (fun u4 => br (u4 = 0) (bX7_coverStep_37 x0 x2 x3 x4) (bd (fX7_greatestDivisor x3 (x4 - x2)) (fun u6 => bX7_coverStep_37 x0 x2 u6 x4))))
noncomputable def sX7_coverStep_12 (x0 : Int64) (x2 : Int32) : (Int32 × Int32) → Option ((Int32 × Int32) ⊕ (Int32)) := fun q => bX7_coverStep_12 x0 x2 q.1 q.2
noncomputable def fX7_coverStep (q0 : Int64) : Option (Int32) := bd (fX7_leastOf q0) (fun u7 => lt_ (u7 + (1 : Int32)) (fun y8 => run (sX7_coverStep_12 q0 u7) (((0 : Int32), y8))))
set_option maxHeartbeats 4000000 in
set_option maxRecDepth 100000 in
theorem cX7_coverStep_ct (l : Launch) (D : va_G) (cI cL cC cZ : ClassId) (q0 : Int64) (r0 : Int32) (hf : fX7_coverStep q0 = some r0) : CtI l yX7_coverStep wsX7_coverStep rmX7_coverStep D (tyz cI cL cC cZ) [.long q0] [] [] r0 := by
  refine CtI.make (cc := cX7_coverStep) (maxL := 5) (ty := .int) (by decide) rfl (Nat.le_of_ble_eq_true rfl) ?_
  intro p e s m below meth c A ls C0 hN hA hP hD hl
  obtain ⟨hx, hb, hr, hml, hown, hts, hlk⟩ := id C0
  have hown : s.vm.findClass RX7 = some m.cls := hown
  have hS : va_S A s.heap s.heap [] := va_S.rf
  have hP : va_P D vwCl [] s.heap := hP
  have hD : va_D A [] := hD
  have hl : lv_has ls 5 [(0, .long q0)] := hl
  have z1 := va_cwS (R := rmX7_coverStep) (rm := rmX7_has) (mc := 0) (ms := 0) 2 hts gX7_coverStep_X7_has rfl rfl rfl (by decide +kernel) ⟨Nat.le_of_ble_eq_true rfl, Nat.le_of_ble_eq_true rfl⟩
  have z2 := va_cwS (R := rmX7_coverStep) (rm := rmX7_greatestDivisor) (mc := 0) (ms := 0) 2 hts gX7_coverStep_X7_greatestDivisor rfl rfl rfl (by decide +kernel) ⟨Nat.le_of_ble_eq_true rfl, Nat.le_of_ble_eq_true rfl⟩
  have z3 := va_cwS (R := rmX7_coverStep) (rm := rmX7_leastOf) (mc := 0) (ms := 0) 1 hts gX7_coverStep_X7_leastOf rfl rfl rfl (by decide +kernel) ⟨Nat.le_of_ble_eq_true rfl, Nat.le_of_ble_eq_true rfl⟩
  have w12 : ∀ (x0 : Int64) (x2 : Int32) (x3 : Int32) (x4 : Int32) (t : Int32) (H : Heap) (locs : List Loc) (ls : Array Slot), run (sX7_coverStep_12 x0 x2) ((x3, x4)) = some t → (fun z => z = r0) t → va_P D vwCl [] H → va_D A [] → va_S A s.heap H locs → lv_has ls 5 [(0, .long x0), (2, .int x2), (3, .int x3), (4, .int x4)] → W p l e rmX7_coverStep s m ([.long q0] : List Value).toArray below meth c H locs 0 0 (MQ below (cQi D r0 A []) ([.long q0] : List Value).toArray s 0 0 A) (F0 m 12 ls []) := by
    intro x0 x2
    obtain ⟨F12, eF12⟩ : ∃ F : (Int32 × Int32) → Prop, F = fun q => ∀ (H : Heap) (locs : List Loc) (ls : Array Slot), va_P D vwCl [] H → va_D A [] → va_S A s.heap H locs → lv_has ls 5 [(0, .long x0), (2, .int x2), (3, .int q.1), (4, .int q.2)] → W p l e rmX7_coverStep s m ([.long q0] : List Value).toArray below meth c H locs 0 0 (MQ below (cQi D r0 A []) ([.long q0] : List Value).toArray s 0 0 A) (F0 m 12 ls []) := ⟨_, rfl⟩
    have key : ∀ (q : Int32 × Int32) (t : Int32), run (sX7_coverStep_12 x0 x2) q = some t → (fun z => z = r0) t → F12 q := by
      refine loop_rule (sX7_coverStep_12 x0 x2) F12 (fun z => z = r0) ?_
      intro q t hf hF
      have hF : (Sum.elim F12 (fun z => z = r0)) t := hF
      have w37 : ∀ (x3 : Int32) (x4 : Int32) (t : (Int32 × Int32) ⊕ (Int32)) (H : Heap) (locs : List Loc) (ls : Array Slot), bX7_coverStep_37 x0 x2 x3 x4 = some t → (Sum.elim F12 (fun z => z = r0)) t → va_P D vwCl [] H → va_D A [] → va_S A s.heap H locs → lv_has ls 5 [(0, .long x0), (2, .int x2), (3, .int x3), (4, .int x4)] → W p l e rmX7_coverStep s m ([.long q0] : List Value).toArray below meth c H locs 0 0 (MQ below (cQi D r0 A []) ([.long q0] : List Value).toArray s 0 0 A) (F0 m 37 ls []) := by
        intro x3 x4 t H locs ls hf hF hP hD hS hl
        unfold bX7_coverStep_37 at hf
        obtain ⟨y1, ey1⟩ : ∃ z : Int32, z = x4 + (1 : Int32) := ⟨_, rfl⟩
        have hf := lt_some hf y1 ey1
        refine lv_iinc (v := y1) (lv' := [(4, .int y1), (0, .long x0), (2, .int x2), (3, .int x3)]) hx hb dX7_coverStep_37 hl (k := 3) rfl (by rw [ey1]; rfl) (by decide) rfl (fun ls hl => ?_)
        refine lv_goto (tgt := 12) hx hb dX7_coverStep_40 (by decide) ?_
        cases hf
        exact ((congrFun eF12 _).mp hF) H locs ls hP hD hS (lv_sub hl [1, 2, 3, 0] rfl)
      rw [eF12]
      obtain ⟨x3, x4⟩ := q
      intro H locs ls hP hD hS hl
      have hP : va_P D vwCl [] H := hP
      have hD : va_D A [] := hD
      have hl : lv_has ls 5 [(0, .long x0), (2, .int x2), (3, .int x3), (4, .int x4)] := hl
      have hf : bX7_coverStep_12 x0 x2 x3 x4 = some t := hf
      unfold bX7_coverStep_12 at hf
      refine lv_iload hx hb dX7_coverStep_12 (lv_at hl 3 rfl) ?_
      refine lv_bipush (v := 40) hx hb dX7_coverStep_14 (by decide) ?_
      refine lv_icmp_gt (tgt := 43) hx hb dX7_coverStep_16 (by decide) (fun c2 => ?_) (fun c2 => ?_)
      · have hf := br_pos c2 hf
        refine lv_iload_n hx hb dX7_coverStep_43 rfl (lv_at hl 2 rfl) ?_
        refine lv_if_ne (tgt := 51) hx hb dX7_coverStep_44 (by decide) (fun c3 => ?_) (fun c3 => ?_)
        · have hf := br_neg c3 hf
          refine lv_iload_n hx hb dX7_coverStep_51 rfl (lv_at hl 2 rfl) ?_
          cases hf
          have hE : x3 = r0 := hF
          subst hE
          exact rtI hx hb hr hlk hP hD hS dX7_coverStep_52
        · have hf := br_pos c3 hf
          refine lv_iconst (v := 1) hx hb dX7_coverStep_47 (by decide) ?_
          refine lv_goto (tgt := 52) hx hb dX7_coverStep_48 (by decide) ?_
          cases hf
          have hE : (1 : Int32) = r0 := hF
          subst hE
          exact rtI hx hb hr hlk hP hD hS dX7_coverStep_52
      · have hf := br_neg c2 hf
        refine lv_lload_n hx hb dX7_coverStep_19 rfl (lv_at hl 0 rfl) ?_
        refine lv_iload hx hb dX7_coverStep_20 (lv_at hl 3 rfl) ?_
        obtain ⟨u4, hu4, hf⟩ := bd_some hf
        refine caSI (rest := []) (As := [.long x0, .int x4]) (wr := []) (wo := []) ⟨hx, hb, hml, hown, hts⟩ hN hP hD hS hA (cX7_has_ct l D cI cL cC cZ x0 x4 u4 hu4) z1 [] [] [] rfl (by decide) rfl (by decide) (by decide) rfl (by decide) rfl hl.1 rfl (Nat.le_of_ble_eq_true rfl) dX7_coverStep_22 ⟨Nat.zero_le _, Nat.zero_le _⟩ (fun H locs hP hD hS => ?_)
        refine lv_if_eq (tgt := 37) hx hb dX7_coverStep_25 (by decide) (fun c5 => ?_) (fun c5 => ?_)
        · have hf := br_pos c5 hf
          exact w37 x3 x4 _ H locs ls hf hF hP hD hS (lv_sub hl [0, 1, 2, 3] rfl)
        · have hf := br_neg c5 hf
          refine lv_iload_n hx hb dX7_coverStep_28 rfl (lv_at hl 2 rfl) ?_
          refine lv_iload hx hb dX7_coverStep_29 (lv_at hl 3 rfl) ?_
          refine lv_iload_n hx hb dX7_coverStep_31 rfl (lv_at hl 1 rfl) ?_
          refine lv_isub hx hb dX7_coverStep_32 ?_
          obtain ⟨u6, hu6, hf⟩ := bd_some hf
          refine caSI (rest := []) (As := [.int x3, .int (x4 - x2)]) (wr := []) (wo := []) ⟨hx, hb, hml, hown, hts⟩ hN hP hD hS hA (cX7_greatestDivisor_ct l D cI cL cC cZ x3 (x4 - x2) u6 hu6) z2 [] [] [] rfl (by decide) rfl (by decide) (by decide) rfl (by decide) rfl hl.1 rfl (Nat.le_of_ble_eq_true rfl) dX7_coverStep_33 ⟨Nat.zero_le _, Nat.zero_le _⟩ (fun H locs hP hD hS => ?_)
          refine lv_istore_n (lv' := [(3, .int u6), (0, .long x0), (2, .int x2), (4, .int x4)]) hx hb dX7_coverStep_36 rfl hl (by decide) rfl (fun ls hl => ?_)
          exact w37 u6 x4 _ H locs ls hf hF hP hD hS (lv_sub hl [1, 2, 0, 3] rfl)
    intro x3 x4 t H locs ls hf hF hP hD hS hl
    exact ((congrFun eF12 _).mp (key ((x3, x4)) t hf hF)) H locs ls hP hD hS hl
  unfold fX7_coverStep at hf
  obtain ⟨H, eH⟩ : ∃ z, z = s.heap := ⟨_, rfl⟩
  obtain ⟨locs, eL⟩ : ∃ z : List Loc, z = [] := ⟨_, rfl⟩
  have hP : va_P D vwCl [] H := by rw [eH]; exact hP
  have hS : va_S A s.heap H locs := by rw [eH, eL]; exact hS
  suffices hG : W p l e rmX7_coverStep s m ([.long q0] : List Value).toArray below meth c H locs 0 0 (MQ below (cQi D r0 A []) ([.long q0] : List Value).toArray s 0 0 A) (F0 m 0 ls []) by rw [eH, eL] at hG; exact hG
  refine lv_lload_n hx hb dX7_coverStep_0 rfl (lv_at hl 0 rfl) ?_
  obtain ⟨u7, hu7, hf⟩ := bd_some hf
  refine caSI (rest := []) (As := [.long q0]) (wr := []) (wo := []) ⟨hx, hb, hml, hown, hts⟩ hN hP hD hS hA (cX7_leastOf_ct l D cI cL cC cZ q0 u7 hu7) z3 [] [] [] rfl (by decide) rfl (by decide) (by decide) rfl (by decide) rfl hl.1 rfl (Nat.le_of_ble_eq_true rfl) dX7_coverStep_1 ⟨Nat.zero_le _, Nat.zero_le _⟩ (fun H locs hP hD hS => ?_)
  refine lv_istore_n (lv' := [(2, .int u7), (0, .long q0)]) hx hb dX7_coverStep_4 rfl hl (by decide) rfl (fun ls hl => ?_)
  refine lv_iconst (v := 0) hx hb dX7_coverStep_5 (by decide) ?_
  refine lv_istore_n (lv' := [(3, .int (0 : Int32)), (2, .int u7), (0, .long q0)]) hx hb dX7_coverStep_6 rfl hl (by decide) rfl (fun ls hl => ?_)
  refine lv_iload_n hx hb dX7_coverStep_7 rfl (lv_at hl 1 rfl) ?_
  refine lv_iconst (v := 1) hx hb dX7_coverStep_8 (by decide) ?_
  refine lv_iadd hx hb dX7_coverStep_9 ?_
  refine lv_topi (fun y8 ey8 => ?_)
  have hf := lt_some hf y8 ey8
  refine lv_istore (lv' := [(4, .int y8), (3, .int (0 : Int32)), (2, .int u7), (0, .long q0)]) hx hb dX7_coverStep_10 hl (by decide) rfl (fun ls hl => ?_)
  exact w12 q0 u7 (0 : Int32) y8 r0 H locs ls hf rfl hP hD hS (lv_sub hl [3, 2, 1, 0] rfl)
abbrev rmX7_coverLength : Room := { frames := 4, cells := 0, slots := 0, locals := 88 }
noncomputable def fX7_coverLength (q0 : Int64) : Option (Int32) := bd (fX7_coverStep q0) (fun u1 => br ((1 : Int32) ≤ u1) (bd (fX7_greatestOf q0) (fun u3 => bd (fX7_leastOf q0) (fun u4 => gd (¬ u1 = 0) (lt_ ((u3 - u4) / u1) (fun y6 => some (y6 + (1 : Int32))))))) (some ((-4 : Int32))))
set_option maxHeartbeats 4000000 in
set_option maxRecDepth 100000 in
theorem cX7_coverLength_ct (l : Launch) (D : va_G) (cI cL cC cZ : ClassId) (q0 : Int64) (r0 : Int32) (hf : fX7_coverLength q0 = some r0) : CtI l yX7_coverLength wsX7_coverLength rmX7_coverLength D (tyz cI cL cC cZ) [.long q0] [] [] r0 := by
  refine CtI.make (cc := cX7_coverLength) (maxL := 3) (ty := .int) (by decide) rfl (Nat.le_of_ble_eq_true rfl) ?_
  intro p e s m below meth c A ls C0 hN hA hP hD hl
  obtain ⟨hx, hb, hr, hml, hown, hts, hlk⟩ := id C0
  have hown : s.vm.findClass RX7 = some m.cls := hown
  have hS : va_S A s.heap s.heap [] := va_S.rf
  have hP : va_P D vwCl [] s.heap := hP
  have hD : va_D A [] := hD
  have hl : lv_has ls 3 [(0, .long q0)] := hl
  have z1 := va_cwS (R := rmX7_coverLength) (rm := rmX7_coverStep) (mc := 0) (ms := 0) 1 hts gX7_coverLength_X7_coverStep rfl rfl rfl (by decide +kernel) ⟨Nat.le_of_ble_eq_true rfl, Nat.le_of_ble_eq_true rfl⟩
  have z2 := va_cwS (R := rmX7_coverLength) (rm := rmX7_greatestOf) (mc := 0) (ms := 0) 1 hts gX7_coverLength_X7_greatestOf rfl rfl rfl (by decide +kernel) ⟨Nat.le_of_ble_eq_true rfl, Nat.le_of_ble_eq_true rfl⟩
  have z3 := va_cwS (R := rmX7_coverLength) (rm := rmX7_leastOf) (mc := 0) (ms := 0) 1 hts gX7_coverLength_X7_leastOf rfl rfl rfl (by decide +kernel) ⟨Nat.le_of_ble_eq_true rfl, Nat.le_of_ble_eq_true rfl⟩
  unfold fX7_coverLength at hf
  obtain ⟨H, eH⟩ : ∃ z, z = s.heap := ⟨_, rfl⟩
  obtain ⟨locs, eL⟩ : ∃ z : List Loc, z = [] := ⟨_, rfl⟩
  have hP : va_P D vwCl [] H := by rw [eH]; exact hP
  have hS : va_S A s.heap H locs := by rw [eH, eL]; exact hS
  suffices hG : W p l e rmX7_coverLength s m ([.long q0] : List Value).toArray below meth c H locs 0 0 (MQ below (cQi D r0 A []) ([.long q0] : List Value).toArray s 0 0 A) (F0 m 0 ls []) by rw [eH, eL] at hG; exact hG
  refine lv_lload_n hx hb dX7_coverLength_0 rfl (lv_at hl 0 rfl) ?_
  obtain ⟨u1, hu1, hf⟩ := bd_some hf
  refine caSI (rest := []) (As := [.long q0]) (wr := []) (wo := []) ⟨hx, hb, hml, hown, hts⟩ hN hP hD hS hA (cX7_coverStep_ct l D cI cL cC cZ q0 u1 hu1) z1 [] [] [] rfl (by decide) rfl (by decide) (by decide) rfl (by decide) rfl hl.1 rfl (Nat.le_of_ble_eq_true rfl) dX7_coverLength_1 ⟨Nat.zero_le _, Nat.zero_le _⟩ (fun H locs hP hD hS => ?_)
  refine lv_istore_n (lv' := [(2, .int u1), (0, .long q0)]) hx hb dX7_coverLength_4 rfl hl (by decide) rfl (fun ls hl => ?_)
  refine lv_iload_n hx hb dX7_coverLength_5 rfl (lv_at hl 0 rfl) ?_
  refine lv_iconst (v := 1) hx hb dX7_coverLength_6 (by decide) ?_
  refine lv_icmp_ge (tgt := 15) hx hb dX7_coverLength_7 (by decide) (fun c2 => ?_) (fun c2 => ?_)
  · have hf := br_pos c2 hf
    refine lv_lload_n hx hb dX7_coverLength_15 rfl (lv_at hl 1 rfl) ?_
    obtain ⟨u3, hu3, hf⟩ := bd_some hf
    refine caSI (rest := []) (As := [.long q0]) (wr := []) (wo := []) ⟨hx, hb, hml, hown, hts⟩ hN hP hD hS hA (cX7_greatestOf_ct l D cI cL cC cZ q0 u3 hu3) z2 [] [] [] rfl (by decide) rfl (by decide) (by decide) rfl (by decide) rfl hl.1 rfl (Nat.le_of_ble_eq_true rfl) dX7_coverLength_16 ⟨Nat.zero_le _, Nat.zero_le _⟩ (fun H locs hP hD hS => ?_)
    refine lv_lload_n hx hb dX7_coverLength_19 rfl (lv_at hl 1 rfl) ?_
    obtain ⟨u4, hu4, hf⟩ := bd_some hf
    refine caSI (rest := [.int u3]) (As := [.long q0]) (wr := []) (wo := []) ⟨hx, hb, hml, hown, hts⟩ hN hP hD hS hA (cX7_leastOf_ct l D cI cL cC cZ q0 u4 hu4) z3 [] [] [] rfl (by decide) rfl (by decide) (by decide) rfl (by decide) rfl hl.1 rfl (Nat.le_of_ble_eq_true rfl) dX7_coverLength_20 ⟨Nat.zero_le _, Nat.zero_le _⟩ (fun H locs hP hD hS => ?_)
    refine lv_isub hx hb dX7_coverLength_23 ?_
    refine lv_iload_n hx hb dX7_coverLength_24 rfl (lv_at hl 0 rfl) ?_
    obtain ⟨c5, hf⟩ := gd_some hf
    refine lv_idiv hx hb dX7_coverLength_25 c5 ?_
    refine lv_topi (fun y6 ey6 => ?_)
    have hf := lt_some hf y6 ey6
    refine lv_iconst (v := 1) hx hb dX7_coverLength_26 (by decide) ?_
    refine lv_iadd hx hb dX7_coverLength_27 ?_
    have hE : y6 + (1 : Int32) = r0 := Option.some.inj hf
    subst hE
    exact rtI hx hb hr hlk hP hD hS dX7_coverLength_28
  · have hf := br_neg c2 hf
    refine lv_bipush (v := -4) hx hb dX7_coverLength_10 (by decide) ?_
    refine lv_goto (tgt := 28) hx hb dX7_coverLength_12 (by decide) ?_
    have hE : (-4 : Int32) = r0 := Option.some.inj hf
    subst hE
    exact rtI hx hb hr hlk hP hD hS dX7_coverLength_28
abbrev rmX7_cover : Room := { frames := 5, cells := 0, slots := 0, locals := 110 }
noncomputable def fX7_cover (q1 : Int32) (q2 : Int32) (g_slots : Nat → Int64) : Option (Int32) := bd (fX7_isSlot q1) (fun u1 => br (u1 = 0) (some ((-1 : Int32))) (br (q2 < 0) (some ((-1 : Int32))) (br (q2 ≤ (2 : Int32)) (gd (¬ q1 < 0 ∧ q1.toNatClampNeg < 4) (br ((lg_cmp (g_slots q1.toNatClampNeg) (0 : Int64)) = 0) (some ((-2 : Int32))) (br (q2 = (0 : Int32)) (gd (¬ q1 < 0 ∧ q1.toNatClampNeg < 4) (bd (fX7_leastOf (g_slots q1.toNatClampNeg)) (fun u10 => some (u10)))) (br (q2 = (1 : Int32)) (gd (¬ q1 < 0 ∧ q1.toNatClampNeg < 4) (bd (fX7_coverStep (g_slots q1.toNatClampNeg)) (fun u12 => some (u12)))) (gd (¬ q1 < 0 ∧ q1.toNatClampNeg < 4) (bd (fX7_coverLength (g_slots q1.toNatClampNeg)) (fun u14 => some (u14)))))))) (some ((-1 : Int32))))))
set_option maxHeartbeats 4000000 in
set_option maxRecDepth 100000 in
theorem cX7_cover_ct (l : Launch) (D : va_G) (cI cL cC cZ : ClassId) (a_this a_slots a_script a_history a_sums a_addend a_grids a_pairings a_swellings a_smallestSets : Nat) (g_slots : Nat → Int64) (q1 : Int32) (q2 : Int32) (r0 : Int32) (hf : fX7_cover q1 q2 g_slots = some r0) : CtI l yX7_cover wsX7_cover rmX7_cover D (tyz cI cL cC cZ) [.ref a_this, .int q1, .int q2] [(a_this, .inr (7, [.ref a_slots, .ref a_script, .ref a_history, .ref a_sums, .ref a_addend, .ref a_grids, .ref a_pairings, .ref a_swellings, .ref a_smallestSets])), (a_slots, .inl (cL, 4, .inr (.inl g_slots)))] [(a_this, .inr (7, [.ref a_slots, .ref a_script, .ref a_history, .ref a_sums, .ref a_addend, .ref a_grids, .ref a_pairings, .ref a_swellings, .ref a_smallestSets])), (a_slots, .inl (cL, 4, .inr (.inl g_slots)))] r0 := by
  refine CtI.make (cc := cX7_cover) (maxL := 3) (ty := .int) (by decide) rfl (Nat.le_of_ble_eq_true rfl) ?_
  intro p e s m below meth c A ls C0 hN hA hP hD hl
  obtain ⟨hx, hb, hr, hml, hown, hts, hlk⟩ := id C0
  have hown : s.vm.findClass RX7 = some m.cls := hown
  have hS : va_S A s.heap s.heap [] := va_S.rf
  have hP : va_P D vwCl [(a_this, .inr (7, [.ref a_slots, .ref a_script, .ref a_history, .ref a_sums, .ref a_addend, .ref a_grids, .ref a_pairings, .ref a_swellings, .ref a_smallestSets])), (a_slots, .inl (cL, 4, .inr (.inl g_slots)))] s.heap := hP
  have hD : va_D A [(a_this, .inr (7, [.ref a_slots, .ref a_script, .ref a_history, .ref a_sums, .ref a_addend, .ref a_grids, .ref a_pairings, .ref a_swellings, .ref a_smallestSets])), (a_slots, .inl (cL, 4, .inr (.inl g_slots)))] := hD
  have hl : lv_has ls 3 [(0, .ref a_this), (1, .int q1), (2, .int q2)] := hl
  have z1 := va_cwS (R := rmX7_cover) (rm := rmX7_isSlot) (mc := 0) (ms := 0) 1 hts gX7_cover_X7_isSlot rfl rfl rfl (by decide +kernel) ⟨Nat.le_of_ble_eq_true rfl, Nat.le_of_ble_eq_true rfl⟩
  have z2 : ∀ w ∈ u_ws RX7 TX7 9, w ∈ wsX7_cover := by decide +kernel
  have z3 := hts (.fieldLink RX7 9 "LittleSums" "slots" "[J") (by decide +kernel)
  have z4 := va_cwS (R := rmX7_cover) (rm := rmX7_leastOf) (mc := 0) (ms := 0) 1 hts gX7_cover_X7_leastOf rfl rfl rfl (by decide +kernel) ⟨Nat.le_of_ble_eq_true rfl, Nat.le_of_ble_eq_true rfl⟩
  have z5 := va_cwS (R := rmX7_cover) (rm := rmX7_coverStep) (mc := 0) (ms := 0) 1 hts gX7_cover_X7_coverStep rfl rfl rfl (by decide +kernel) ⟨Nat.le_of_ble_eq_true rfl, Nat.le_of_ble_eq_true rfl⟩
  have z6 := va_cwS (R := rmX7_cover) (rm := rmX7_coverLength) (mc := 0) (ms := 0) 1 hts gX7_cover_X7_coverLength rfl rfl rfl (by decide +kernel) ⟨Nat.le_of_ble_eq_true rfl, Nat.le_of_ble_eq_true rfl⟩
  unfold fX7_cover at hf
  obtain ⟨H, eH⟩ : ∃ z, z = s.heap := ⟨_, rfl⟩
  obtain ⟨locs, eL⟩ : ∃ z : List Loc, z = [] := ⟨_, rfl⟩
  have hP : va_P D vwCl [(a_this, .inr (7, [.ref a_slots, .ref a_script, .ref a_history, .ref a_sums, .ref a_addend, .ref a_grids, .ref a_pairings, .ref a_swellings, .ref a_smallestSets])), (a_slots, .inl (cL, 4, .inr (.inl g_slots)))] H := by rw [eH]; exact hP
  have hS : va_S A s.heap H locs := by rw [eH, eL]; exact hS
  suffices hG : W p l e rmX7_cover s m ([.ref a_this, .int q1, .int q2] : List Value).toArray below meth c H locs 0 0 (MQ below (cQi D r0 A [(a_this, .inr (7, [.ref a_slots, .ref a_script, .ref a_history, .ref a_sums, .ref a_addend, .ref a_grids, .ref a_pairings, .ref a_swellings, .ref a_smallestSets])), (a_slots, .inl (cL, 4, .inr (.inl g_slots)))]) ([.ref a_this, .int q1, .int q2] : List Value).toArray s 0 0 A) (F0 m 0 ls []) by rw [eH, eL] at hG; exact hG
  refine lv_iload_n hx hb dX7_cover_0 rfl (lv_at hl 1 rfl) ?_
  obtain ⟨u1, hu1, hf⟩ := bd_some hf
  refine caSI (rest := []) (As := [.int q1]) (wr := [(a_this, .inr (7, [.ref a_slots, .ref a_script, .ref a_history, .ref a_sums, .ref a_addend, .ref a_grids, .ref a_pairings, .ref a_swellings, .ref a_smallestSets])), (a_slots, .inl (cL, 4, .inr (.inl g_slots)))]) (wo := [(a_this, .inr (7, [.ref a_slots, .ref a_script, .ref a_history, .ref a_sums, .ref a_addend, .ref a_grids, .ref a_pairings, .ref a_swellings, .ref a_smallestSets])), (a_slots, .inl (cL, 4, .inr (.inl g_slots)))]) ⟨hx, hb, hml, hown, hts⟩ hN hP hD hS hA (cX7_isSlot_ct l D cI cL cC cZ q1 u1 hu1) z1 [] [0, 1] [0, 1] rfl (by decide) rfl (by decide) (by decide) rfl (by decide) rfl hl.1 rfl (Nat.le_of_ble_eq_true rfl) dX7_cover_1 ⟨Nat.zero_le _, Nat.zero_le _⟩ (fun H locs hP hD hS => ?_)
  refine lv_if_eq (tgt := 16) hx hb dX7_cover_4 (by decide) (fun c2 => ?_) (fun c2 => ?_)
  · have hf := br_pos c2 hf
    refine lv_iconst (v := -1) hx hb dX7_cover_16 (by decide) ?_
    have hE : (-1 : Int32) = r0 := Option.some.inj hf
    subst hE
    exact rtI hx hb hr hlk hP hD hS dX7_cover_17
  · have hf := br_neg c2 hf
    refine lv_iload_n hx hb dX7_cover_7 rfl (lv_at hl 2 rfl) ?_
    refine lv_if_lt (tgt := 16) hx hb dX7_cover_8 (by decide) (fun c3 => ?_) (fun c3 => ?_)
    · have hf := br_pos c3 hf
      refine lv_iconst (v := -1) hx hb dX7_cover_16 (by decide) ?_
      have hE : (-1 : Int32) = r0 := Option.some.inj hf
      subst hE
      exact rtI hx hb hr hlk hP hD hS dX7_cover_17
    · have hf := br_neg c3 hf
      refine lv_iload_n hx hb dX7_cover_11 rfl (lv_at hl 2 rfl) ?_
      refine lv_iconst (v := 2) hx hb dX7_cover_12 (by decide) ?_
      refine lv_icmp_le (tgt := 18) hx hb dX7_cover_13 (by decide) (fun c4 => ?_) (fun c4 => ?_)
      · have hf := br_pos c4 hf
        refine lv_aload_n hx hb dX7_cover_18 rfl (lv_at hl 0 rfl) ?_
        refine va_get (D := D) (ci := 7) (v := .ref a_slots) (C := RX7) (T := TX7) (N := 9) hx hb hts z2 hown hN.1 hP 0 rfl rfl 0 (by decide) z3 (fun _ h9 => h9) rfl dX7_cover_19 ?_
        refine lv_iload_n hx hb dX7_cover_22 rfl (lv_at hl 1 rfl) ?_
        obtain ⟨c5, hf⟩ := gd_some hf
        refine va_lald hx hb hN.1 hP 1 1 rfl rfl (ix_in c5) dX7_cover_23 ?_
        refine lv_lconst (v := 0) hx hb dX7_cover_24 (by decide) ?_
        refine W.lcmp hx hb dX7_cover_25 ?_
        refine lv_if_ne (tgt := 32) hx hb dX7_cover_26 (by decide) (fun c6 => ?_) (fun c6 => ?_)
        · have hf := br_neg c6 hf
          refine lv_iload_n hx hb dX7_cover_32 rfl (lv_at hl 2 rfl) ?_
          rcases Classical.em (q2 = (0 : Int32)) with c7 | c7
          · have hf := br_pos c7 hf
            refine lv_lookup (tgt := 60) (off := 27) hx hb dX7_cover_33 (by decide) (by rw [c7]; decide) (by decide) ?_
            refine lv_aload_n hx hb dX7_cover_60 rfl (lv_at hl 0 rfl) ?_
            refine va_get (D := D) (ci := 7) (v := .ref a_slots) (C := RX7) (T := TX7) (N := 9) hx hb hts z2 hown hN.1 hP 0 rfl rfl 0 (by decide) z3 (fun _ h9 => h9) rfl dX7_cover_61 ?_
            refine lv_iload_n hx hb dX7_cover_64 rfl (lv_at hl 1 rfl) ?_
            obtain ⟨c9, hf⟩ := gd_some hf
            refine va_lald hx hb hN.1 hP 1 1 rfl rfl (ix_in c9) dX7_cover_65 ?_
            obtain ⟨u10, hu10, hf⟩ := bd_some hf
            refine caSI (rest := []) (As := [.long (g_slots q1.toNatClampNeg)]) (wr := [(a_this, .inr (7, [.ref a_slots, .ref a_script, .ref a_history, .ref a_sums, .ref a_addend, .ref a_grids, .ref a_pairings, .ref a_swellings, .ref a_smallestSets])), (a_slots, .inl (cL, 4, .inr (.inl g_slots)))]) (wo := [(a_this, .inr (7, [.ref a_slots, .ref a_script, .ref a_history, .ref a_sums, .ref a_addend, .ref a_grids, .ref a_pairings, .ref a_swellings, .ref a_smallestSets])), (a_slots, .inl (cL, 4, .inr (.inl g_slots)))]) ⟨hx, hb, hml, hown, hts⟩ hN hP hD hS hA (cX7_leastOf_ct l D cI cL cC cZ (g_slots q1.toNatClampNeg) u10 hu10) z4 [] [0, 1] [0, 1] rfl (by decide) rfl (by decide) (by decide) rfl (by decide) rfl hl.1 rfl (Nat.le_of_ble_eq_true rfl) dX7_cover_66 ⟨Nat.zero_le _, Nat.zero_le _⟩ (fun H locs hP hD hS => ?_)
            have hE : u10 = r0 := Option.some.inj hf
            subst hE
            exact rtI hx hb hr hlk hP hD hS dX7_cover_69
          · have hf := br_neg c7 hf
            rcases Classical.em (q2 = (1 : Int32)) with c8 | c8
            · have hf := br_pos c8 hf
              refine lv_lookup (tgt := 70) (off := 37) hx hb dX7_cover_33 (by decide) (by rw [c8]; decide) (by decide) ?_
              refine lv_aload_n hx hb dX7_cover_70 rfl (lv_at hl 0 rfl) ?_
              refine va_get (D := D) (ci := 7) (v := .ref a_slots) (C := RX7) (T := TX7) (N := 9) hx hb hts z2 hown hN.1 hP 0 rfl rfl 0 (by decide) z3 (fun _ h9 => h9) rfl dX7_cover_71 ?_
              refine lv_iload_n hx hb dX7_cover_74 rfl (lv_at hl 1 rfl) ?_
              obtain ⟨c11, hf⟩ := gd_some hf
              refine va_lald hx hb hN.1 hP 1 1 rfl rfl (ix_in c11) dX7_cover_75 ?_
              obtain ⟨u12, hu12, hf⟩ := bd_some hf
              refine caSI (rest := []) (As := [.long (g_slots q1.toNatClampNeg)]) (wr := [(a_this, .inr (7, [.ref a_slots, .ref a_script, .ref a_history, .ref a_sums, .ref a_addend, .ref a_grids, .ref a_pairings, .ref a_swellings, .ref a_smallestSets])), (a_slots, .inl (cL, 4, .inr (.inl g_slots)))]) (wo := [(a_this, .inr (7, [.ref a_slots, .ref a_script, .ref a_history, .ref a_sums, .ref a_addend, .ref a_grids, .ref a_pairings, .ref a_swellings, .ref a_smallestSets])), (a_slots, .inl (cL, 4, .inr (.inl g_slots)))]) ⟨hx, hb, hml, hown, hts⟩ hN hP hD hS hA (cX7_coverStep_ct l D cI cL cC cZ (g_slots q1.toNatClampNeg) u12 hu12) z5 [] [0, 1] [0, 1] rfl (by decide) rfl (by decide) (by decide) rfl (by decide) rfl hl.1 rfl (Nat.le_of_ble_eq_true rfl) dX7_cover_76 ⟨Nat.zero_le _, Nat.zero_le _⟩ (fun H locs hP hD hS => ?_)
              have hE : u12 = r0 := Option.some.inj hf
              subst hE
              exact rtI hx hb hr hlk hP hD hS dX7_cover_79
            · have hf := br_neg c8 hf
              refine lv_lookup (tgt := 80) (off := 47) hx hb dX7_cover_33 (by decide) (by rw [lv_osw c7 (by decide)]; rw [lv_osw c8 (by decide)]; rfl) (by decide) ?_
              refine lv_aload_n hx hb dX7_cover_80 rfl (lv_at hl 0 rfl) ?_
              refine va_get (D := D) (ci := 7) (v := .ref a_slots) (C := RX7) (T := TX7) (N := 9) hx hb hts z2 hown hN.1 hP 0 rfl rfl 0 (by decide) z3 (fun _ h9 => h9) rfl dX7_cover_81 ?_
              refine lv_iload_n hx hb dX7_cover_84 rfl (lv_at hl 1 rfl) ?_
              obtain ⟨c13, hf⟩ := gd_some hf
              refine va_lald hx hb hN.1 hP 1 1 rfl rfl (ix_in c13) dX7_cover_85 ?_
              obtain ⟨u14, hu14, hf⟩ := bd_some hf
              refine caSI (rest := []) (As := [.long (g_slots q1.toNatClampNeg)]) (wr := [(a_this, .inr (7, [.ref a_slots, .ref a_script, .ref a_history, .ref a_sums, .ref a_addend, .ref a_grids, .ref a_pairings, .ref a_swellings, .ref a_smallestSets])), (a_slots, .inl (cL, 4, .inr (.inl g_slots)))]) (wo := [(a_this, .inr (7, [.ref a_slots, .ref a_script, .ref a_history, .ref a_sums, .ref a_addend, .ref a_grids, .ref a_pairings, .ref a_swellings, .ref a_smallestSets])), (a_slots, .inl (cL, 4, .inr (.inl g_slots)))]) ⟨hx, hb, hml, hown, hts⟩ hN hP hD hS hA (cX7_coverLength_ct l D cI cL cC cZ (g_slots q1.toNatClampNeg) u14 hu14) z6 [] [0, 1] [0, 1] rfl (by decide) rfl (by decide) (by decide) rfl (by decide) rfl hl.1 rfl (Nat.le_of_ble_eq_true rfl) dX7_cover_86 ⟨Nat.zero_le _, Nat.zero_le _⟩ (fun H locs hP hD hS => ?_)
              have hE : u14 = r0 := Option.some.inj hf
              subst hE
              exact rtI hx hb hr hlk hP hD hS dX7_cover_89
        · have hf := br_pos c6 hf
          refine lv_bipush (v := -2) hx hb dX7_cover_29 (by decide) ?_
          have hE : (-2 : Int32) = r0 := Option.some.inj hf
          subst hE
          exact rtI hx hb hr hlk hP hD hS dX7_cover_31
      · have hf := br_neg c4 hf
        refine lv_iconst (v := -1) hx hb dX7_cover_16 (by decide) ?_
        have hE : (-1 : Int32) = r0 := Option.some.inj hf
        subst hE
        exact rtI hx hb hr hlk hP hD hS dX7_cover_17
abbrev rmX7_grid : Room := { frames := 5, cells := 0, slots := 0, locals := 123 }
noncomputable def fX7_grid (q1 : Int32) (q2 : Int32) (g_slots : Nat → Int64) (g_grids_sought : Int64) (g_grids_found : Int32) (g_grids_fromBase : Int64) (g_grids_base : Int32) (g_grids_span : Int32) (g_grids_widest : Int32) (g_grids_firstStep : Int32) (g_grids_secondStep : Int32) (g_grids_firstLength : Int32) (g_grids_secondLength : Int32) (g_grids_factors : Nat → Int32) : Option (Int32 × Int64 × Int32 × Int64 × Int32 × Int32 × Int32 × Int32 × Int32 × Int32 × Int32 × (Nat → Int32)) := bd (fX7_isSlot q1) (fun u1 => br (u1 = 0) (some (((-1 : Int32), g_grids_sought, g_grids_found, g_grids_fromBase, g_grids_base, g_grids_span, g_grids_widest, g_grids_firstStep, g_grids_secondStep, g_grids_firstLength, g_grids_secondLength, g_grids_factors))) (br (q2 < 0) (some (((-1 : Int32), g_grids_sought, g_grids_found, g_grids_fromBase, g_grids_base, g_grids_span, g_grids_widest, g_grids_firstStep, g_grids_secondStep, g_grids_firstLength, g_grids_secondLength, g_grids_factors))) (br (q2 ≤ (4 : Int32)) (gd (¬ q1 < 0 ∧ q1.toNatClampNeg < 4) (br ((lg_cmp (g_slots q1.toNatClampNeg) (0 : Int64)) = 0) (some (((-2 : Int32), g_grids_sought, g_grids_found, g_grids_fromBase, g_grids_base, g_grids_span, g_grids_widest, g_grids_firstStep, g_grids_secondStep, g_grids_firstLength, g_grids_secondLength, g_grids_factors))) (gd (¬ q1 < 0 ∧ q1.toNatClampNeg < 4) (bd (fX0_seek (g_slots q1.toNatClampNeg) g_grids_sought g_grids_found g_grids_fromBase g_grids_base g_grids_span g_grids_widest g_grids_firstStep g_grids_secondStep g_grids_firstLength g_grids_secondLength g_grids_factors) (fun u8 => br (u8.1 = 0) (some (((-4 : Int32), u8.2.1, u8.2.2.1, u8.2.2.2.1, u8.2.2.2.2.1, u8.2.2.2.2.2.1, u8.2.2.2.2.2.2.1, u8.2.2.2.2.2.2.2.1, u8.2.2.2.2.2.2.2.2.1, u8.2.2.2.2.2.2.2.2.2.1, u8.2.2.2.2.2.2.2.2.2.2.1, u8.2.2.2.2.2.2.2.2.2.2.2))) (bd (fX0_answer q2 u8.2.2.2.2.1 u8.2.2.2.2.2.2.2.1 u8.2.2.2.2.2.2.2.2.1 u8.2.2.2.2.2.2.2.2.2.1 u8.2.2.2.2.2.2.2.2.2.2.1) (fun u10 => some ((u10, u8.2.1, u8.2.2.1, u8.2.2.2.1, u8.2.2.2.2.1, u8.2.2.2.2.2.1, u8.2.2.2.2.2.2.1, u8.2.2.2.2.2.2.2.1, u8.2.2.2.2.2.2.2.2.1, u8.2.2.2.2.2.2.2.2.2.1, u8.2.2.2.2.2.2.2.2.2.2.1, u8.2.2.2.2.2.2.2.2.2.2.2))))))))) (some (((-1 : Int32), g_grids_sought, g_grids_found, g_grids_fromBase, g_grids_base, g_grids_span, g_grids_widest, g_grids_firstStep, g_grids_secondStep, g_grids_firstLength, g_grids_secondLength, g_grids_factors))))))
set_option maxHeartbeats 4000000 in
set_option maxRecDepth 100000 in
theorem cX7_grid_ct (l : Launch) (D : va_G) (cI cL cC cZ : ClassId) (a_this a_slots a_script a_history a_sums a_addend a_grids a_pairings a_swellings a_smallestSets a_grids_factors : Nat) (g_slots : Nat → Int64) (g_grids_sought : Int64) (g_grids_found : Int32) (g_grids_fromBase : Int64) (g_grids_base : Int32) (g_grids_span : Int32) (g_grids_widest : Int32) (g_grids_firstStep : Int32) (g_grids_secondStep : Int32) (g_grids_firstLength : Int32) (g_grids_secondLength : Int32) (g_grids_factors : Nat → Int32) (q1 : Int32) (q2 : Int32) (r0 : Int32) (v_grids_sought : Int64) (v_grids_found : Int32) (v_grids_fromBase : Int64) (v_grids_base : Int32) (v_grids_span : Int32) (v_grids_widest : Int32) (v_grids_firstStep : Int32) (v_grids_secondStep : Int32) (v_grids_firstLength : Int32) (v_grids_secondLength : Int32) (v_grids_factors : Nat → Int32) (hf : fX7_grid q1 q2 g_slots g_grids_sought g_grids_found g_grids_fromBase g_grids_base g_grids_span g_grids_widest g_grids_firstStep g_grids_secondStep g_grids_firstLength g_grids_secondLength g_grids_factors = some ((r0, v_grids_sought, v_grids_found, v_grids_fromBase, v_grids_base, v_grids_span, v_grids_widest, v_grids_firstStep, v_grids_secondStep, v_grids_firstLength, v_grids_secondLength, v_grids_factors))) : CtI l yX7_grid wsX7_grid rmX7_grid D (tyz cI cL cC cZ) [.ref a_this, .int q1, .int q2] [(a_this, .inr (7, [.ref a_slots, .ref a_script, .ref a_history, .ref a_sums, .ref a_addend, .ref a_grids, .ref a_pairings, .ref a_swellings, .ref a_smallestSets])), (a_slots, .inl (cL, 4, .inr (.inl g_slots))), (a_grids, .inr (0, [.ref a_grids_factors, .long g_grids_sought, .int g_grids_found, .long g_grids_fromBase, .int g_grids_base, .int g_grids_span, .int g_grids_widest, .int g_grids_firstStep, .int g_grids_secondStep, .int g_grids_firstLength, .int g_grids_secondLength])), (a_grids_factors, .inl (cI, 10, .inl g_grids_factors))] [(a_this, .inr (7, [.ref a_slots, .ref a_script, .ref a_history, .ref a_sums, .ref a_addend, .ref a_grids, .ref a_pairings, .ref a_swellings, .ref a_smallestSets])), (a_slots, .inl (cL, 4, .inr (.inl g_slots))), (a_grids, .inr (0, [.ref a_grids_factors, .long v_grids_sought, .int v_grids_found, .long v_grids_fromBase, .int v_grids_base, .int v_grids_span, .int v_grids_widest, .int v_grids_firstStep, .int v_grids_secondStep, .int v_grids_firstLength, .int v_grids_secondLength])), (a_grids_factors, .inl (cI, 10, .inl v_grids_factors))] r0 := by
  refine CtI.make (cc := cX7_grid) (maxL := 3) (ty := .int) (by decide) rfl (Nat.le_of_ble_eq_true rfl) ?_
  intro p e s m below meth c A ls C0 hN hA hP hD hl
  obtain ⟨hx, hb, hr, hml, hown, hts, hlk⟩ := id C0
  have hown : s.vm.findClass RX7 = some m.cls := hown
  have hS : va_S A s.heap s.heap [] := va_S.rf
  have hP : va_P D vwCl [(a_this, .inr (7, [.ref a_slots, .ref a_script, .ref a_history, .ref a_sums, .ref a_addend, .ref a_grids, .ref a_pairings, .ref a_swellings, .ref a_smallestSets])), (a_slots, .inl (cL, 4, .inr (.inl g_slots))), (a_grids, .inr (0, [.ref a_grids_factors, .long g_grids_sought, .int g_grids_found, .long g_grids_fromBase, .int g_grids_base, .int g_grids_span, .int g_grids_widest, .int g_grids_firstStep, .int g_grids_secondStep, .int g_grids_firstLength, .int g_grids_secondLength])), (a_grids_factors, .inl (cI, 10, .inl g_grids_factors))] s.heap := hP
  have hD : va_D A [(a_this, .inr (7, [.ref a_slots, .ref a_script, .ref a_history, .ref a_sums, .ref a_addend, .ref a_grids, .ref a_pairings, .ref a_swellings, .ref a_smallestSets])), (a_slots, .inl (cL, 4, .inr (.inl g_slots))), (a_grids, .inr (0, [.ref a_grids_factors, .long g_grids_sought, .int g_grids_found, .long g_grids_fromBase, .int g_grids_base, .int g_grids_span, .int g_grids_widest, .int g_grids_firstStep, .int g_grids_secondStep, .int g_grids_firstLength, .int g_grids_secondLength])), (a_grids_factors, .inl (cI, 10, .inl g_grids_factors))] := hD
  have hl : lv_has ls 3 [(0, .ref a_this), (1, .int q1), (2, .int q2)] := hl
  have z1 := va_cwS (R := rmX7_grid) (rm := rmX7_isSlot) (mc := 0) (ms := 0) 1 hts gX7_grid_X7_isSlot rfl rfl rfl (by decide +kernel) ⟨Nat.le_of_ble_eq_true rfl, Nat.le_of_ble_eq_true rfl⟩
  have z2 : ∀ w ∈ u_ws RX7 TX7 9, w ∈ wsX7_grid := by decide +kernel
  have z3 := hts (.fieldLink RX7 9 "LittleSums" "slots" "[J") (by decide +kernel)
  have z4 := hts (.fieldLink RX7 40 "LittleSums" "grids" "LLittleSums$GridSearch;") (by decide +kernel)
  have z5 := cwV (R := rmX7_grid) (rm := rmX0_seek) (mc := 0) (ms := 0) 1 hts gX7_grid_X0_seek rfl rfl rfl (by decide +kernel) ⟨Nat.le_of_ble_eq_true rfl, Nat.le_of_ble_eq_true rfl⟩
  have z6 := cwV (R := rmX7_grid) (rm := rmX0_answer) (mc := 0) (ms := 0) 1 hts gX7_grid_X0_answer rfl rfl rfl (by decide +kernel) ⟨Nat.le_of_ble_eq_true rfl, Nat.le_of_ble_eq_true rfl⟩
  unfold fX7_grid at hf
  obtain ⟨H, eH⟩ : ∃ z, z = s.heap := ⟨_, rfl⟩
  obtain ⟨locs, eL⟩ : ∃ z : List Loc, z = [] := ⟨_, rfl⟩
  have hP : va_P D vwCl [(a_this, .inr (7, [.ref a_slots, .ref a_script, .ref a_history, .ref a_sums, .ref a_addend, .ref a_grids, .ref a_pairings, .ref a_swellings, .ref a_smallestSets])), (a_slots, .inl (cL, 4, .inr (.inl g_slots))), (a_grids, .inr (0, [.ref a_grids_factors, .long g_grids_sought, .int g_grids_found, .long g_grids_fromBase, .int g_grids_base, .int g_grids_span, .int g_grids_widest, .int g_grids_firstStep, .int g_grids_secondStep, .int g_grids_firstLength, .int g_grids_secondLength])), (a_grids_factors, .inl (cI, 10, .inl g_grids_factors))] H := by rw [eH]; exact hP
  have hS : va_S A s.heap H locs := by rw [eH, eL]; exact hS
  suffices hG : W p l e rmX7_grid s m ([.ref a_this, .int q1, .int q2] : List Value).toArray below meth c H locs 0 0 (MQ below (cQi D r0 A [(a_this, .inr (7, [.ref a_slots, .ref a_script, .ref a_history, .ref a_sums, .ref a_addend, .ref a_grids, .ref a_pairings, .ref a_swellings, .ref a_smallestSets])), (a_slots, .inl (cL, 4, .inr (.inl g_slots))), (a_grids, .inr (0, [.ref a_grids_factors, .long v_grids_sought, .int v_grids_found, .long v_grids_fromBase, .int v_grids_base, .int v_grids_span, .int v_grids_widest, .int v_grids_firstStep, .int v_grids_secondStep, .int v_grids_firstLength, .int v_grids_secondLength])), (a_grids_factors, .inl (cI, 10, .inl v_grids_factors))]) ([.ref a_this, .int q1, .int q2] : List Value).toArray s 0 0 A) (F0 m 0 ls []) by rw [eH, eL] at hG; exact hG
  refine lv_iload_n hx hb dX7_grid_0 rfl (lv_at hl 1 rfl) ?_
  obtain ⟨u1, hu1, hf⟩ := bd_some hf
  refine caSI (rest := []) (As := [.int q1]) (wr := [(a_this, .inr (7, [.ref a_slots, .ref a_script, .ref a_history, .ref a_sums, .ref a_addend, .ref a_grids, .ref a_pairings, .ref a_swellings, .ref a_smallestSets])), (a_slots, .inl (cL, 4, .inr (.inl g_slots))), (a_grids, .inr (0, [.ref a_grids_factors, .long g_grids_sought, .int g_grids_found, .long g_grids_fromBase, .int g_grids_base, .int g_grids_span, .int g_grids_widest, .int g_grids_firstStep, .int g_grids_secondStep, .int g_grids_firstLength, .int g_grids_secondLength])), (a_grids_factors, .inl (cI, 10, .inl g_grids_factors))]) (wo := [(a_this, .inr (7, [.ref a_slots, .ref a_script, .ref a_history, .ref a_sums, .ref a_addend, .ref a_grids, .ref a_pairings, .ref a_swellings, .ref a_smallestSets])), (a_slots, .inl (cL, 4, .inr (.inl g_slots))), (a_grids, .inr (0, [.ref a_grids_factors, .long g_grids_sought, .int g_grids_found, .long g_grids_fromBase, .int g_grids_base, .int g_grids_span, .int g_grids_widest, .int g_grids_firstStep, .int g_grids_secondStep, .int g_grids_firstLength, .int g_grids_secondLength])), (a_grids_factors, .inl (cI, 10, .inl g_grids_factors))]) ⟨hx, hb, hml, hown, hts⟩ hN hP hD hS hA (cX7_isSlot_ct l D cI cL cC cZ q1 u1 hu1) z1 [] [0, 1, 2, 3] [0, 1, 2, 3] rfl (by decide) rfl (by decide) (by decide) rfl (by decide) rfl hl.1 rfl (Nat.le_of_ble_eq_true rfl) dX7_grid_1 ⟨Nat.zero_le _, Nat.zero_le _⟩ (fun H locs hP hD hS => ?_)
  refine lv_if_eq (tgt := 16) hx hb dX7_grid_4 (by decide) (fun c2 => ?_) (fun c2 => ?_)
  · have hf := br_pos c2 hf
    refine lv_iconst (v := -1) hx hb dX7_grid_16 (by decide) ?_
    have hE : ((-1 : Int32), g_grids_sought, g_grids_found, g_grids_fromBase, g_grids_base, g_grids_span, g_grids_widest, g_grids_firstStep, g_grids_secondStep, g_grids_firstLength, g_grids_secondLength, g_grids_factors) = (r0, v_grids_sought, v_grids_found, v_grids_fromBase, v_grids_base, v_grids_span, v_grids_widest, v_grids_firstStep, v_grids_secondStep, v_grids_firstLength, v_grids_secondLength, v_grids_factors) := Option.some.inj hf
    simp only [Prod.mk.injEq] at hE
    obtain ⟨rfl, rfl, rfl, rfl, rfl, rfl, rfl, rfl, rfl, rfl, rfl, rfl⟩ := hE
    exact rtI hx hb hr hlk hP hD hS dX7_grid_17
  · have hf := br_neg c2 hf
    refine lv_iload_n hx hb dX7_grid_7 rfl (lv_at hl 2 rfl) ?_
    refine lv_if_lt (tgt := 16) hx hb dX7_grid_8 (by decide) (fun c3 => ?_) (fun c3 => ?_)
    · have hf := br_pos c3 hf
      refine lv_iconst (v := -1) hx hb dX7_grid_16 (by decide) ?_
      have hE : ((-1 : Int32), g_grids_sought, g_grids_found, g_grids_fromBase, g_grids_base, g_grids_span, g_grids_widest, g_grids_firstStep, g_grids_secondStep, g_grids_firstLength, g_grids_secondLength, g_grids_factors) = (r0, v_grids_sought, v_grids_found, v_grids_fromBase, v_grids_base, v_grids_span, v_grids_widest, v_grids_firstStep, v_grids_secondStep, v_grids_firstLength, v_grids_secondLength, v_grids_factors) := Option.some.inj hf
      simp only [Prod.mk.injEq] at hE
      obtain ⟨rfl, rfl, rfl, rfl, rfl, rfl, rfl, rfl, rfl, rfl, rfl, rfl⟩ := hE
      exact rtI hx hb hr hlk hP hD hS dX7_grid_17
    · have hf := br_neg c3 hf
      refine lv_iload_n hx hb dX7_grid_11 rfl (lv_at hl 2 rfl) ?_
      refine lv_iconst (v := 4) hx hb dX7_grid_12 (by decide) ?_
      refine lv_icmp_le (tgt := 18) hx hb dX7_grid_13 (by decide) (fun c4 => ?_) (fun c4 => ?_)
      · have hf := br_pos c4 hf
        refine lv_aload_n hx hb dX7_grid_18 rfl (lv_at hl 0 rfl) ?_
        refine va_get (D := D) (ci := 7) (v := .ref a_slots) (C := RX7) (T := TX7) (N := 9) hx hb hts z2 hown hN.1 hP 0 rfl rfl 0 (by decide) z3 (fun _ h9 => h9) rfl dX7_grid_19 ?_
        refine lv_iload_n hx hb dX7_grid_22 rfl (lv_at hl 1 rfl) ?_
        obtain ⟨c5, hf⟩ := gd_some hf
        refine va_lald hx hb hN.1 hP 1 1 rfl rfl (ix_in c5) dX7_grid_23 ?_
        refine lv_lconst (v := 0) hx hb dX7_grid_24 (by decide) ?_
        refine W.lcmp hx hb dX7_grid_25 ?_
        refine lv_if_ne (tgt := 32) hx hb dX7_grid_26 (by decide) (fun c6 => ?_) (fun c6 => ?_)
        · have hf := br_neg c6 hf
          refine lv_aload_n hx hb dX7_grid_32 rfl (lv_at hl 0 rfl) ?_
          refine va_get (D := D) (ci := 7) (v := .ref a_grids) (C := RX7) (T := TX7) (N := 9) hx hb hts z2 hown hN.1 hP 0 rfl rfl 5 (by decide) z4 (fun _ h9 => h9) rfl dX7_grid_33 ?_
          refine lv_aload_n hx hb dX7_grid_36 rfl (lv_at hl 0 rfl) ?_
          refine va_get (D := D) (ci := 7) (v := .ref a_slots) (C := RX7) (T := TX7) (N := 9) hx hb hts z2 hown hN.1 hP 0 rfl rfl 0 (by decide) z3 (fun _ h9 => h9) rfl dX7_grid_37 ?_
          refine lv_iload_n hx hb dX7_grid_40 rfl (lv_at hl 1 rfl) ?_
          obtain ⟨c7, hf⟩ := gd_some hf
          refine va_lald hx hb hN.1 hP 1 1 rfl rfl (ix_in c7) dX7_grid_41 ?_
          obtain ⟨u8, hu8, hf⟩ := bd_some hf
          refine caVI (rest := []) (As := [.long (g_slots q1.toNatClampNeg)]) (wr := [(a_this, .inr (7, [.ref a_slots, .ref a_script, .ref a_history, .ref a_sums, .ref a_addend, .ref a_grids, .ref a_pairings, .ref a_swellings, .ref a_smallestSets])), (a_slots, .inl (cL, 4, .inr (.inl g_slots)))]) (wo := [(a_this, .inr (7, [.ref a_slots, .ref a_script, .ref a_history, .ref a_sums, .ref a_addend, .ref a_grids, .ref a_pairings, .ref a_swellings, .ref a_smallestSets])), (a_slots, .inl (cL, 4, .inr (.inl g_slots))), (a_grids, .inr (0, [.ref a_grids_factors, .long u8.2.1, .int u8.2.2.1, .long u8.2.2.2.1, .int u8.2.2.2.2.1, .int u8.2.2.2.2.2.1, .int u8.2.2.2.2.2.2.1, .int u8.2.2.2.2.2.2.2.1, .int u8.2.2.2.2.2.2.2.2.1, .int u8.2.2.2.2.2.2.2.2.2.1, .int u8.2.2.2.2.2.2.2.2.2.2.1])), (a_grids_factors, .inl (cI, 10, .inl u8.2.2.2.2.2.2.2.2.2.2.2))]) ⟨hx, hb, hml, hown, hts⟩ hN hP hD hS hA (cX0_seek_ct l D cI cL cC cZ a_grids a_grids_factors g_grids_sought g_grids_found g_grids_fromBase g_grids_base g_grids_span g_grids_widest g_grids_firstStep g_grids_secondStep g_grids_firstLength g_grids_secondLength g_grids_factors (g_slots q1.toNatClampNeg) u8.1 u8.2.1 u8.2.2.1 u8.2.2.2.1 u8.2.2.2.2.1 u8.2.2.2.2.2.1 u8.2.2.2.2.2.2.1 u8.2.2.2.2.2.2.2.1 u8.2.2.2.2.2.2.2.2.1 u8.2.2.2.2.2.2.2.2.2.1 u8.2.2.2.2.2.2.2.2.2.2.1 u8.2.2.2.2.2.2.2.2.2.2.2 hu8) z5 2 0 rfl rfl [2, 3] [0, 1] [0, 1, 2, 3] rfl (by decide) rfl (by decide) (by decide) rfl (by decide) rfl hl.1 rfl (Nat.le_of_ble_eq_true rfl) dX7_grid_42 ⟨Nat.zero_le _, Nat.zero_le _⟩ (fun H locs hP hD hS => ?_)
          refine lv_if_eq (tgt := 59) hx hb dX7_grid_45 (by decide) (fun c9 => ?_) (fun c9 => ?_)
          · have hf := br_pos c9 hf
            refine lv_bipush (v := -4) hx hb dX7_grid_59 (by decide) ?_
            have hE : ((-4 : Int32), u8.2.1, u8.2.2.1, u8.2.2.2.1, u8.2.2.2.2.1, u8.2.2.2.2.2.1, u8.2.2.2.2.2.2.1, u8.2.2.2.2.2.2.2.1, u8.2.2.2.2.2.2.2.2.1, u8.2.2.2.2.2.2.2.2.2.1, u8.2.2.2.2.2.2.2.2.2.2.1, u8.2.2.2.2.2.2.2.2.2.2.2) = (r0, v_grids_sought, v_grids_found, v_grids_fromBase, v_grids_base, v_grids_span, v_grids_widest, v_grids_firstStep, v_grids_secondStep, v_grids_firstLength, v_grids_secondLength, v_grids_factors) := Option.some.inj hf
            simp only [Prod.mk.injEq] at hE
            obtain ⟨rfl, rfl, rfl, rfl, rfl, rfl, rfl, rfl, rfl, rfl, rfl, rfl⟩ := hE
            exact rtI hx hb hr hlk hP hD hS dX7_grid_61
          · have hf := br_neg c9 hf
            refine lv_aload_n hx hb dX7_grid_48 rfl (lv_at hl 0 rfl) ?_
            refine va_get (D := D) (ci := 7) (v := .ref a_grids) (C := RX7) (T := TX7) (N := 9) hx hb hts z2 hown hN.1 hP 0 rfl rfl 5 (by decide) z4 (fun _ h9 => h9) rfl dX7_grid_49 ?_
            refine lv_iload_n hx hb dX7_grid_52 rfl (lv_at hl 2 rfl) ?_
            obtain ⟨u10, hu10, hf⟩ := bd_some hf
            refine caVI (rest := []) (As := [.int q2]) (wr := [(a_this, .inr (7, [.ref a_slots, .ref a_script, .ref a_history, .ref a_sums, .ref a_addend, .ref a_grids, .ref a_pairings, .ref a_swellings, .ref a_smallestSets])), (a_slots, .inl (cL, 4, .inr (.inl g_slots))), (a_grids_factors, .inl (cI, 10, .inl u8.2.2.2.2.2.2.2.2.2.2.2))]) (wo := [(a_this, .inr (7, [.ref a_slots, .ref a_script, .ref a_history, .ref a_sums, .ref a_addend, .ref a_grids, .ref a_pairings, .ref a_swellings, .ref a_smallestSets])), (a_slots, .inl (cL, 4, .inr (.inl g_slots))), (a_grids, .inr (0, [.ref a_grids_factors, .long u8.2.1, .int u8.2.2.1, .long u8.2.2.2.1, .int u8.2.2.2.2.1, .int u8.2.2.2.2.2.1, .int u8.2.2.2.2.2.2.1, .int u8.2.2.2.2.2.2.2.1, .int u8.2.2.2.2.2.2.2.2.1, .int u8.2.2.2.2.2.2.2.2.2.1, .int u8.2.2.2.2.2.2.2.2.2.2.1])), (a_grids_factors, .inl (cI, 10, .inl u8.2.2.2.2.2.2.2.2.2.2.2))]) ⟨hx, hb, hml, hown, hts⟩ hN hP hD hS hA (cX0_answer_ct l D cI cL cC cZ a_grids a_grids_factors u8.2.1 u8.2.2.1 u8.2.2.2.1 u8.2.2.2.2.1 u8.2.2.2.2.2.1 u8.2.2.2.2.2.2.1 u8.2.2.2.2.2.2.2.1 u8.2.2.2.2.2.2.2.2.1 u8.2.2.2.2.2.2.2.2.2.1 u8.2.2.2.2.2.2.2.2.2.2.1 q2 u10 hu10) z6 2 0 rfl rfl [2] [0, 1, 3] [0, 1, 3, 2] rfl (by decide) rfl (by decide) (by decide) rfl (by decide) rfl hl.1 rfl (Nat.le_of_ble_eq_true rfl) dX7_grid_53 ⟨Nat.zero_le _, Nat.zero_le _⟩ (fun H locs hP hD hS => ?_)
            refine lv_goto (tgt := 61) hx hb dX7_grid_56 (by decide) ?_
            have hE : (u10, u8.2.1, u8.2.2.1, u8.2.2.2.1, u8.2.2.2.2.1, u8.2.2.2.2.2.1, u8.2.2.2.2.2.2.1, u8.2.2.2.2.2.2.2.1, u8.2.2.2.2.2.2.2.2.1, u8.2.2.2.2.2.2.2.2.2.1, u8.2.2.2.2.2.2.2.2.2.2.1, u8.2.2.2.2.2.2.2.2.2.2.2) = (r0, v_grids_sought, v_grids_found, v_grids_fromBase, v_grids_base, v_grids_span, v_grids_widest, v_grids_firstStep, v_grids_secondStep, v_grids_firstLength, v_grids_secondLength, v_grids_factors) := Option.some.inj hf
            simp only [Prod.mk.injEq] at hE
            obtain ⟨rfl, rfl, rfl, rfl, rfl, rfl, rfl, rfl, rfl, rfl, rfl, rfl⟩ := hE
            exact rtI hx hb hr hlk hP hD hS dX7_grid_61
        · have hf := br_pos c6 hf
          refine lv_bipush (v := -2) hx hb dX7_grid_29 (by decide) ?_
          have hE : ((-2 : Int32), g_grids_sought, g_grids_found, g_grids_fromBase, g_grids_base, g_grids_span, g_grids_widest, g_grids_firstStep, g_grids_secondStep, g_grids_firstLength, g_grids_secondLength, g_grids_factors) = (r0, v_grids_sought, v_grids_found, v_grids_fromBase, v_grids_base, v_grids_span, v_grids_widest, v_grids_firstStep, v_grids_secondStep, v_grids_firstLength, v_grids_secondLength, v_grids_factors) := Option.some.inj hf
          simp only [Prod.mk.injEq] at hE
          obtain ⟨rfl, rfl, rfl, rfl, rfl, rfl, rfl, rfl, rfl, rfl, rfl, rfl⟩ := hE
          exact rtI hx hb hr hlk hP hD hS dX7_grid_31
      · have hf := br_neg c4 hf
        refine lv_iconst (v := -1) hx hb dX7_grid_16 (by decide) ?_
        have hE : ((-1 : Int32), g_grids_sought, g_grids_found, g_grids_fromBase, g_grids_base, g_grids_span, g_grids_widest, g_grids_firstStep, g_grids_secondStep, g_grids_firstLength, g_grids_secondLength, g_grids_factors) = (r0, v_grids_sought, v_grids_found, v_grids_fromBase, v_grids_base, v_grids_span, v_grids_widest, v_grids_firstStep, v_grids_secondStep, v_grids_firstLength, v_grids_secondLength, v_grids_factors) := Option.some.inj hf
        simp only [Prod.mk.injEq] at hE
        obtain ⟨rfl, rfl, rfl, rfl, rfl, rfl, rfl, rfl, rfl, rfl, rfl, rfl⟩ := hE
        exact rtI hx hb hr hlk hP hD hS dX7_grid_17
abbrev rmX7_canPair : Room := { frames := 1, cells := 0, slots := 0, locals := 21 }
noncomputable def bX7_canPair_37 (g_slots : Nat → Int64) : Option (Int32) := gd ((0 : Int32) = 0 ∨ (0 : Int32) = 1) (some ((0 : Int32)))
noncomputable def fX7_canPair (q1 : Int32) (q2 : Int32) (g_slots : Nat → Int64) : Option (Int32) := gd (¬ q1 < 0 ∧ q1.toNatClampNeg < 4) (bd (fJ13_bitCount_95d88 (g_slots q1.toNatClampNeg)) (fun u3 => gd (¬ q2 < 0 ∧ q2.toNatClampNeg < 4) (bd (fJ13_bitCount_95d88 (g_slots q2.toNatClampNeg)) (fun u5 => br (u3 = u5) (br (u3 ≤ 0) (bX7_canPair_37 g_slots) (br ((7 : Int32) < u3) (bX7_canPair_37 g_slots) (gd ((1 : Int32) = 0 ∨ (1 : Int32) = 1) (some ((1 : Int32)))))) (bX7_canPair_37 g_slots)))))
set_option maxHeartbeats 4000000 in
set_option maxRecDepth 100000 in
theorem cX7_canPair_ct (l : Launch) (D : va_G) (cI cL cC cZ : ClassId) (a_this a_slots a_script a_history a_sums a_addend a_grids a_pairings a_swellings a_smallestSets : Nat) (g_slots : Nat → Int64) (q1 : Int32) (q2 : Int32) (r0 : Int32) (hf : fX7_canPair q1 q2 g_slots = some r0) : CtI l yX7_canPair wsX7_canPair rmX7_canPair D (tyz cI cL cC cZ) [.ref a_this, .int q1, .int q2] [(a_this, .inr (7, [.ref a_slots, .ref a_script, .ref a_history, .ref a_sums, .ref a_addend, .ref a_grids, .ref a_pairings, .ref a_swellings, .ref a_smallestSets])), (a_slots, .inl (cL, 4, .inr (.inl g_slots)))] [(a_this, .inr (7, [.ref a_slots, .ref a_script, .ref a_history, .ref a_sums, .ref a_addend, .ref a_grids, .ref a_pairings, .ref a_swellings, .ref a_smallestSets])), (a_slots, .inl (cL, 4, .inr (.inl g_slots)))] r0 := by
  refine CtI.make (cc := cX7_canPair) (maxL := 4) (ty := .boolean) (by decide) rfl (Nat.le_of_ble_eq_true rfl) ?_
  intro p e s m below meth c A ls C0 hN hA hP hD hl
  obtain ⟨hx, hb, hr, hml, hown, hts, hlk⟩ := id C0
  have hown : s.vm.findClass RX7 = some m.cls := hown
  have hS : va_S A s.heap s.heap [] := va_S.rf
  have hP : va_P D vwCl [(a_this, .inr (7, [.ref a_slots, .ref a_script, .ref a_history, .ref a_sums, .ref a_addend, .ref a_grids, .ref a_pairings, .ref a_swellings, .ref a_smallestSets])), (a_slots, .inl (cL, 4, .inr (.inl g_slots)))] s.heap := hP
  have hD : va_D A [(a_this, .inr (7, [.ref a_slots, .ref a_script, .ref a_history, .ref a_sums, .ref a_addend, .ref a_grids, .ref a_pairings, .ref a_swellings, .ref a_smallestSets])), (a_slots, .inl (cL, 4, .inr (.inl g_slots)))] := hD
  have hl : lv_has ls 4 [(0, .ref a_this), (1, .int q1), (2, .int q2)] := hl
  have z1 : ∀ w ∈ u_ws RX7 TX7 9, w ∈ wsX7_canPair := by decide +kernel
  have z2 := hts (.fieldLink RX7 9 "LittleSums" "slots" "[J") (by decide +kernel)
  have z3 := va_cwS (R := rmX7_canPair) (rm := rmJ13_bitCount_95d88) (mc := 0) (ms := 0) 1 hts gX7_canPair_J13_bitCount_95d88 rfl rfl rfl (by decide +kernel) ⟨Nat.le_of_ble_eq_true rfl, Nat.le_of_ble_eq_true rfl⟩
  have w37 : ∀ (g_slots : Nat → Int64) (H : Heap) (locs : List Loc) (ls : Array Slot), bX7_canPair_37 g_slots = some r0 → va_P D vwCl [(a_this, .inr (7, [.ref a_slots, .ref a_script, .ref a_history, .ref a_sums, .ref a_addend, .ref a_grids, .ref a_pairings, .ref a_swellings, .ref a_smallestSets])), (a_slots, .inl (cL, 4, .inr (.inl g_slots)))] H → va_D A [(a_this, .inr (7, [.ref a_slots, .ref a_script, .ref a_history, .ref a_sums, .ref a_addend, .ref a_grids, .ref a_pairings, .ref a_swellings, .ref a_smallestSets])), (a_slots, .inl (cL, 4, .inr (.inl g_slots)))] → va_S A s.heap H locs → lv_has ls 4 [] → W p l e rmX7_canPair s m ([.ref a_this, .int q1, .int q2] : List Value).toArray below meth c H locs 0 0 (MQ below (cQi D r0 A [(a_this, .inr (7, [.ref a_slots, .ref a_script, .ref a_history, .ref a_sums, .ref a_addend, .ref a_grids, .ref a_pairings, .ref a_swellings, .ref a_smallestSets])), (a_slots, .inl (cL, 4, .inr (.inl g_slots)))]) ([.ref a_this, .int q1, .int q2] : List Value).toArray s 0 0 A) (F0 m 37 ls []) := by
    intro g_slots H locs ls hf hP hD hS hl
    unfold bX7_canPair_37 at hf
    refine lv_iconst (v := 0) hx hb dX7_canPair_37 (by decide) ?_
    obtain ⟨c1, hf⟩ := gd_some hf
    have hE : (0 : Int32) = r0 := Option.some.inj hf
    subst hE
    exact rtZ hx hb hr hlk c1 hP hD hS dX7_canPair_38
  unfold fX7_canPair at hf
  obtain ⟨H, eH⟩ : ∃ z, z = s.heap := ⟨_, rfl⟩
  obtain ⟨locs, eL⟩ : ∃ z : List Loc, z = [] := ⟨_, rfl⟩
  have hP : va_P D vwCl [(a_this, .inr (7, [.ref a_slots, .ref a_script, .ref a_history, .ref a_sums, .ref a_addend, .ref a_grids, .ref a_pairings, .ref a_swellings, .ref a_smallestSets])), (a_slots, .inl (cL, 4, .inr (.inl g_slots)))] H := by rw [eH]; exact hP
  have hS : va_S A s.heap H locs := by rw [eH, eL]; exact hS
  suffices hG : W p l e rmX7_canPair s m ([.ref a_this, .int q1, .int q2] : List Value).toArray below meth c H locs 0 0 (MQ below (cQi D r0 A [(a_this, .inr (7, [.ref a_slots, .ref a_script, .ref a_history, .ref a_sums, .ref a_addend, .ref a_grids, .ref a_pairings, .ref a_swellings, .ref a_smallestSets])), (a_slots, .inl (cL, 4, .inr (.inl g_slots)))]) ([.ref a_this, .int q1, .int q2] : List Value).toArray s 0 0 A) (F0 m 0 ls []) by rw [eH, eL] at hG; exact hG
  refine lv_aload_n hx hb dX7_canPair_0 rfl (lv_at hl 0 rfl) ?_
  refine va_get (D := D) (ci := 7) (v := .ref a_slots) (C := RX7) (T := TX7) (N := 9) hx hb hts z1 hown hN.1 hP 0 rfl rfl 0 (by decide) z2 (fun _ h9 => h9) rfl dX7_canPair_1 ?_
  refine lv_iload_n hx hb dX7_canPair_4 rfl (lv_at hl 1 rfl) ?_
  obtain ⟨c2, hf⟩ := gd_some hf
  refine va_lald hx hb hN.1 hP 1 1 rfl rfl (ix_in c2) dX7_canPair_5 ?_
  obtain ⟨u3, hu3, hf⟩ := bd_some hf
  refine caSI (rest := []) (As := [.long (g_slots q1.toNatClampNeg)]) (wr := [(a_this, .inr (7, [.ref a_slots, .ref a_script, .ref a_history, .ref a_sums, .ref a_addend, .ref a_grids, .ref a_pairings, .ref a_swellings, .ref a_smallestSets])), (a_slots, .inl (cL, 4, .inr (.inl g_slots)))]) (wo := [(a_this, .inr (7, [.ref a_slots, .ref a_script, .ref a_history, .ref a_sums, .ref a_addend, .ref a_grids, .ref a_pairings, .ref a_swellings, .ref a_smallestSets])), (a_slots, .inl (cL, 4, .inr (.inl g_slots)))]) ⟨hx, hb, hml, hown, hts⟩ hN hP hD hS hA (cJ13_bitCount_95d88_ct l D cI cL cC cZ (g_slots q1.toNatClampNeg) u3 hu3) z3 [] [0, 1] [0, 1] rfl (by decide) rfl (by decide) (by decide) rfl (by decide) rfl hl.1 rfl (Nat.le_of_ble_eq_true rfl) dX7_canPair_6 ⟨Nat.zero_le _, Nat.zero_le _⟩ (fun H locs hP hD hS => ?_)
  refine lv_istore_n (lv' := [(3, .int u3), (0, .ref a_this), (1, .int q1), (2, .int q2)]) hx hb dX7_canPair_9 rfl hl (by decide) rfl (fun ls hl => ?_)
  refine lv_iload_n hx hb dX7_canPair_10 rfl (lv_at hl 0 rfl) ?_
  refine lv_aload_n hx hb dX7_canPair_11 rfl (lv_at hl 1 rfl) ?_
  refine va_get (D := D) (ci := 7) (v := .ref a_slots) (C := RX7) (T := TX7) (N := 9) hx hb hts z1 hown hN.1 hP 0 rfl rfl 0 (by decide) z2 (fun _ h9 => h9) rfl dX7_canPair_12 ?_
  refine lv_iload_n hx hb dX7_canPair_15 rfl (lv_at hl 3 rfl) ?_
  obtain ⟨c4, hf⟩ := gd_some hf
  refine va_lald hx hb hN.1 hP 1 1 rfl rfl (ix_in c4) dX7_canPair_16 ?_
  obtain ⟨u5, hu5, hf⟩ := bd_some hf
  refine caSI (rest := [.int u3]) (As := [.long (g_slots q2.toNatClampNeg)]) (wr := [(a_this, .inr (7, [.ref a_slots, .ref a_script, .ref a_history, .ref a_sums, .ref a_addend, .ref a_grids, .ref a_pairings, .ref a_swellings, .ref a_smallestSets])), (a_slots, .inl (cL, 4, .inr (.inl g_slots)))]) (wo := [(a_this, .inr (7, [.ref a_slots, .ref a_script, .ref a_history, .ref a_sums, .ref a_addend, .ref a_grids, .ref a_pairings, .ref a_swellings, .ref a_smallestSets])), (a_slots, .inl (cL, 4, .inr (.inl g_slots)))]) ⟨hx, hb, hml, hown, hts⟩ hN hP hD hS hA (cJ13_bitCount_95d88_ct l D cI cL cC cZ (g_slots q2.toNatClampNeg) u5 hu5) z3 [] [0, 1] [0, 1] rfl (by decide) rfl (by decide) (by decide) rfl (by decide) rfl hl.1 rfl (Nat.le_of_ble_eq_true rfl) dX7_canPair_17 ⟨Nat.zero_le _, Nat.zero_le _⟩ (fun H locs hP hD hS => ?_)
  refine lv_icmp_ne (tgt := 37) hx hb dX7_canPair_20 (by decide) (fun c6 => ?_) (fun c6 => ?_)
  · have hf := br_neg c6 hf
    exact w37 g_slots H locs ls hf hP hD hS (lv_sub hl [] rfl)
  · have hf := br_pos c6 hf
    refine lv_iload_n hx hb dX7_canPair_23 rfl (lv_at hl 0 rfl) ?_
    refine lv_if_le (tgt := 37) hx hb dX7_canPair_24 (by decide) (fun c7 => ?_) (fun c7 => ?_)
    · have hf := br_pos c7 hf
      exact w37 g_slots H locs ls hf hP hD hS (lv_sub hl [] rfl)
    · have hf := br_neg c7 hf
      refine lv_iload_n hx hb dX7_canPair_27 rfl (lv_at hl 0 rfl) ?_
      refine lv_bipush (v := 7) hx hb dX7_canPair_28 (by decide) ?_
      refine lv_icmp_gt (tgt := 37) hx hb dX7_canPair_30 (by decide) (fun c8 => ?_) (fun c8 => ?_)
      · have hf := br_pos c8 hf
        exact w37 g_slots H locs ls hf hP hD hS (lv_sub hl [] rfl)
      · have hf := br_neg c8 hf
        refine lv_iconst (v := 1) hx hb dX7_canPair_33 (by decide) ?_
        refine lv_goto (tgt := 38) hx hb dX7_canPair_34 (by decide) ?_
        obtain ⟨c9, hf⟩ := gd_some hf
        have hE : (1 : Int32) = r0 := Option.some.inj hf
        subst hE
        exact rtZ hx hb hr hlk c9 hP hD hS dX7_canPair_38
abbrev rmX7_alike : Room := { frames := 12, cells := 0, slots := 0, locals := 567 }
noncomputable def fX7_alike (q1 : Int32) (q2 : Int32) (g_slots : Nat → Int64) (g_pairings_firstSet : Int64) (g_pairings_secondSet : Int64) (g_pairings_size : Int32) (g_pairings_taken : Int32) (g_pairings_paired : Int32) (g_pairings_first : Nat → Int32) (g_pairings_second : Nat → Int32) (g_pairings_chosen : Nat → Int32) (g_pairings_there : Nat → Int32) (g_pairings_back : Nat → Int32) (g_pairings_uses : Nat → Int32) (g_pairings_partnerUses : Nat → Int32) : Option (Int32 × Int64 × Int64 × Int32 × Int32 × Int32 × (Nat → Int32) × (Nat → Int32) × (Nat → Int32) × (Nat → Int32) × (Nat → Int32) × (Nat → Int32) × (Nat → Int32)) := bd (fX7_isSlot q1) (fun u1 => br (u1 = 0) (some (((-1 : Int32), g_pairings_firstSet, g_pairings_secondSet, g_pairings_size, g_pairings_taken, g_pairings_paired, g_pairings_first, g_pairings_second, g_pairings_chosen, g_pairings_there, g_pairings_back, g_pairings_uses, g_pairings_partnerUses))) (bd (fX7_isSlot q2) (fun u3 => br (u3 = 0) (some (((-1 : Int32), g_pairings_firstSet, g_pairings_secondSet, g_pairings_size, g_pairings_taken, g_pairings_paired, g_pairings_first, g_pairings_second, g_pairings_chosen, g_pairings_there, g_pairings_back, g_pairings_uses, g_pairings_partnerUses))) (bd (fX7_canPair q1 q2 g_slots) (fun u5 => br (u5 = 0) (some (((-2 : Int32), g_pairings_firstSet, g_pairings_secondSet, g_pairings_size, g_pairings_taken, g_pairings_paired, g_pairings_first, g_pairings_second, g_pairings_chosen, g_pairings_there, g_pairings_back, g_pairings_uses, g_pairings_partnerUses))) (gd (¬ q1 < 0 ∧ q1.toNatClampNeg < 4) (gd (¬ q2 < 0 ∧ q2.toNatClampNeg < 4) (bd (fX2_seek (g_slots q1.toNatClampNeg) (g_slots q2.toNatClampNeg) g_pairings_firstSet g_pairings_secondSet g_pairings_size g_pairings_taken g_pairings_paired g_pairings_first g_pairings_second g_pairings_chosen g_pairings_there g_pairings_back g_pairings_uses g_pairings_partnerUses) (fun u9 => br (u9.1 = 0) (some (((0 : Int32), u9.2.1, u9.2.2.1, u9.2.2.2.1, u9.2.2.2.2.1, u9.2.2.2.2.2.1, u9.2.2.2.2.2.2.1, u9.2.2.2.2.2.2.2.1, u9.2.2.2.2.2.2.2.2.1, u9.2.2.2.2.2.2.2.2.2.1, u9.2.2.2.2.2.2.2.2.2.2.1, u9.2.2.2.2.2.2.2.2.2.2.2.1, u9.2.2.2.2.2.2.2.2.2.2.2.2))) (some (((1 : Int32), u9.2.1, u9.2.2.1, u9.2.2.2.1, u9.2.2.2.2.1, u9.2.2.2.2.2.1, u9.2.2.2.2.2.2.1, u9.2.2.2.2.2.2.2.1, u9.2.2.2.2.2.2.2.2.1, u9.2.2.2.2.2.2.2.2.2.1, u9.2.2.2.2.2.2.2.2.2.2.1, u9.2.2.2.2.2.2.2.2.2.2.2.1, u9.2.2.2.2.2.2.2.2.2.2.2.2))))))))))))
set_option maxHeartbeats 4000000 in
set_option maxRecDepth 100000 in
theorem cX7_alike_ct (l : Launch) (D : va_G) (cI cL cC cZ : ClassId) (a_this a_slots a_script a_history a_sums a_addend a_grids a_pairings a_swellings a_smallestSets a_pairings_first a_pairings_second a_pairings_chosen a_pairings_there a_pairings_back a_pairings_uses a_pairings_partnerUses : Nat) (g_slots : Nat → Int64) (g_pairings_firstSet : Int64) (g_pairings_secondSet : Int64) (g_pairings_size : Int32) (g_pairings_taken : Int32) (g_pairings_paired : Int32) (g_pairings_first : Nat → Int32) (g_pairings_second : Nat → Int32) (g_pairings_chosen : Nat → Int32) (g_pairings_there : Nat → Int32) (g_pairings_back : Nat → Int32) (g_pairings_uses : Nat → Int32) (g_pairings_partnerUses : Nat → Int32) (q1 : Int32) (q2 : Int32) (r0 : Int32) (v_pairings_firstSet : Int64) (v_pairings_secondSet : Int64) (v_pairings_size : Int32) (v_pairings_taken : Int32) (v_pairings_paired : Int32) (v_pairings_first : Nat → Int32) (v_pairings_second : Nat → Int32) (v_pairings_chosen : Nat → Int32) (v_pairings_there : Nat → Int32) (v_pairings_back : Nat → Int32) (v_pairings_uses : Nat → Int32) (v_pairings_partnerUses : Nat → Int32) (hf : fX7_alike q1 q2 g_slots g_pairings_firstSet g_pairings_secondSet g_pairings_size g_pairings_taken g_pairings_paired g_pairings_first g_pairings_second g_pairings_chosen g_pairings_there g_pairings_back g_pairings_uses g_pairings_partnerUses = some ((r0, v_pairings_firstSet, v_pairings_secondSet, v_pairings_size, v_pairings_taken, v_pairings_paired, v_pairings_first, v_pairings_second, v_pairings_chosen, v_pairings_there, v_pairings_back, v_pairings_uses, v_pairings_partnerUses))) : CtI l yX7_alike wsX7_alike rmX7_alike D (tyz cI cL cC cZ) [.ref a_this, .int q1, .int q2] [(a_this, .inr (7, [.ref a_slots, .ref a_script, .ref a_history, .ref a_sums, .ref a_addend, .ref a_grids, .ref a_pairings, .ref a_swellings, .ref a_smallestSets])), (a_slots, .inl (cL, 4, .inr (.inl g_slots))), (a_pairings, .inr (2, [.ref a_pairings_first, .ref a_pairings_second, .ref a_pairings_chosen, .ref a_pairings_there, .ref a_pairings_back, .ref a_pairings_uses, .ref a_pairings_partnerUses, .long g_pairings_firstSet, .long g_pairings_secondSet, .int g_pairings_size, .int g_pairings_taken, .int g_pairings_paired])), (a_pairings_first, .inl (cI, 7, .inl g_pairings_first)), (a_pairings_second, .inl (cI, 7, .inl g_pairings_second)), (a_pairings_chosen, .inl (cI, 7, .inl g_pairings_chosen)), (a_pairings_there, .inl (cI, 81, .inl g_pairings_there)), (a_pairings_back, .inl (cI, 81, .inl g_pairings_back)), (a_pairings_uses, .inl (cI, 81, .inl g_pairings_uses)), (a_pairings_partnerUses, .inl (cI, 81, .inl g_pairings_partnerUses))] [(a_this, .inr (7, [.ref a_slots, .ref a_script, .ref a_history, .ref a_sums, .ref a_addend, .ref a_grids, .ref a_pairings, .ref a_swellings, .ref a_smallestSets])), (a_slots, .inl (cL, 4, .inr (.inl g_slots))), (a_pairings, .inr (2, [.ref a_pairings_first, .ref a_pairings_second, .ref a_pairings_chosen, .ref a_pairings_there, .ref a_pairings_back, .ref a_pairings_uses, .ref a_pairings_partnerUses, .long v_pairings_firstSet, .long v_pairings_secondSet, .int v_pairings_size, .int v_pairings_taken, .int v_pairings_paired])), (a_pairings_first, .inl (cI, 7, .inl v_pairings_first)), (a_pairings_second, .inl (cI, 7, .inl v_pairings_second)), (a_pairings_chosen, .inl (cI, 7, .inl v_pairings_chosen)), (a_pairings_there, .inl (cI, 81, .inl v_pairings_there)), (a_pairings_back, .inl (cI, 81, .inl v_pairings_back)), (a_pairings_uses, .inl (cI, 81, .inl v_pairings_uses)), (a_pairings_partnerUses, .inl (cI, 81, .inl v_pairings_partnerUses))] r0 := by
  refine CtI.make (cc := cX7_alike) (maxL := 3) (ty := .int) (by decide) rfl (Nat.le_of_ble_eq_true rfl) ?_
  intro p e s m below meth c A ls C0 hN hA hP hD hl
  obtain ⟨hx, hb, hr, hml, hown, hts, hlk⟩ := id C0
  have hown : s.vm.findClass RX7 = some m.cls := hown
  have hS : va_S A s.heap s.heap [] := va_S.rf
  have hP : va_P D vwCl [(a_this, .inr (7, [.ref a_slots, .ref a_script, .ref a_history, .ref a_sums, .ref a_addend, .ref a_grids, .ref a_pairings, .ref a_swellings, .ref a_smallestSets])), (a_slots, .inl (cL, 4, .inr (.inl g_slots))), (a_pairings, .inr (2, [.ref a_pairings_first, .ref a_pairings_second, .ref a_pairings_chosen, .ref a_pairings_there, .ref a_pairings_back, .ref a_pairings_uses, .ref a_pairings_partnerUses, .long g_pairings_firstSet, .long g_pairings_secondSet, .int g_pairings_size, .int g_pairings_taken, .int g_pairings_paired])), (a_pairings_first, .inl (cI, 7, .inl g_pairings_first)), (a_pairings_second, .inl (cI, 7, .inl g_pairings_second)), (a_pairings_chosen, .inl (cI, 7, .inl g_pairings_chosen)), (a_pairings_there, .inl (cI, 81, .inl g_pairings_there)), (a_pairings_back, .inl (cI, 81, .inl g_pairings_back)), (a_pairings_uses, .inl (cI, 81, .inl g_pairings_uses)), (a_pairings_partnerUses, .inl (cI, 81, .inl g_pairings_partnerUses))] s.heap := hP
  have hD : va_D A [(a_this, .inr (7, [.ref a_slots, .ref a_script, .ref a_history, .ref a_sums, .ref a_addend, .ref a_grids, .ref a_pairings, .ref a_swellings, .ref a_smallestSets])), (a_slots, .inl (cL, 4, .inr (.inl g_slots))), (a_pairings, .inr (2, [.ref a_pairings_first, .ref a_pairings_second, .ref a_pairings_chosen, .ref a_pairings_there, .ref a_pairings_back, .ref a_pairings_uses, .ref a_pairings_partnerUses, .long g_pairings_firstSet, .long g_pairings_secondSet, .int g_pairings_size, .int g_pairings_taken, .int g_pairings_paired])), (a_pairings_first, .inl (cI, 7, .inl g_pairings_first)), (a_pairings_second, .inl (cI, 7, .inl g_pairings_second)), (a_pairings_chosen, .inl (cI, 7, .inl g_pairings_chosen)), (a_pairings_there, .inl (cI, 81, .inl g_pairings_there)), (a_pairings_back, .inl (cI, 81, .inl g_pairings_back)), (a_pairings_uses, .inl (cI, 81, .inl g_pairings_uses)), (a_pairings_partnerUses, .inl (cI, 81, .inl g_pairings_partnerUses))] := hD
  have hl : lv_has ls 3 [(0, .ref a_this), (1, .int q1), (2, .int q2)] := hl
  have z1 := va_cwS (R := rmX7_alike) (rm := rmX7_isSlot) (mc := 0) (ms := 0) 1 hts gX7_alike_X7_isSlot rfl rfl rfl (by decide +kernel) ⟨Nat.le_of_ble_eq_true rfl, Nat.le_of_ble_eq_true rfl⟩
  have z2 := cwV (R := rmX7_alike) (rm := rmX7_canPair) (mc := 0) (ms := 0) 2 hts gX7_alike_X7_canPair rfl rfl rfl (by decide +kernel) ⟨Nat.le_of_ble_eq_true rfl, Nat.le_of_ble_eq_true rfl⟩
  have z3 : ∀ w ∈ u_ws RX7 TX7 9, w ∈ wsX7_alike := by decide +kernel
  have z4 := hts (.fieldLink RX7 47 "LittleSums" "pairings" "LLittleSums$PairingSearch;") (by decide +kernel)
  have z5 := hts (.fieldLink RX7 9 "LittleSums" "slots" "[J") (by decide +kernel)
  have z6 := cwV (R := rmX7_alike) (rm := rmX2_seek) (mc := 0) (ms := 0) 2 hts gX7_alike_X2_seek rfl rfl rfl (by decide +kernel) ⟨Nat.le_of_ble_eq_true rfl, Nat.le_of_ble_eq_true rfl⟩
  unfold fX7_alike at hf
  obtain ⟨H, eH⟩ : ∃ z, z = s.heap := ⟨_, rfl⟩
  obtain ⟨locs, eL⟩ : ∃ z : List Loc, z = [] := ⟨_, rfl⟩
  have hP : va_P D vwCl [(a_this, .inr (7, [.ref a_slots, .ref a_script, .ref a_history, .ref a_sums, .ref a_addend, .ref a_grids, .ref a_pairings, .ref a_swellings, .ref a_smallestSets])), (a_slots, .inl (cL, 4, .inr (.inl g_slots))), (a_pairings, .inr (2, [.ref a_pairings_first, .ref a_pairings_second, .ref a_pairings_chosen, .ref a_pairings_there, .ref a_pairings_back, .ref a_pairings_uses, .ref a_pairings_partnerUses, .long g_pairings_firstSet, .long g_pairings_secondSet, .int g_pairings_size, .int g_pairings_taken, .int g_pairings_paired])), (a_pairings_first, .inl (cI, 7, .inl g_pairings_first)), (a_pairings_second, .inl (cI, 7, .inl g_pairings_second)), (a_pairings_chosen, .inl (cI, 7, .inl g_pairings_chosen)), (a_pairings_there, .inl (cI, 81, .inl g_pairings_there)), (a_pairings_back, .inl (cI, 81, .inl g_pairings_back)), (a_pairings_uses, .inl (cI, 81, .inl g_pairings_uses)), (a_pairings_partnerUses, .inl (cI, 81, .inl g_pairings_partnerUses))] H := by rw [eH]; exact hP
  have hS : va_S A s.heap H locs := by rw [eH, eL]; exact hS
  suffices hG : W p l e rmX7_alike s m ([.ref a_this, .int q1, .int q2] : List Value).toArray below meth c H locs 0 0 (MQ below (cQi D r0 A [(a_this, .inr (7, [.ref a_slots, .ref a_script, .ref a_history, .ref a_sums, .ref a_addend, .ref a_grids, .ref a_pairings, .ref a_swellings, .ref a_smallestSets])), (a_slots, .inl (cL, 4, .inr (.inl g_slots))), (a_pairings, .inr (2, [.ref a_pairings_first, .ref a_pairings_second, .ref a_pairings_chosen, .ref a_pairings_there, .ref a_pairings_back, .ref a_pairings_uses, .ref a_pairings_partnerUses, .long v_pairings_firstSet, .long v_pairings_secondSet, .int v_pairings_size, .int v_pairings_taken, .int v_pairings_paired])), (a_pairings_first, .inl (cI, 7, .inl v_pairings_first)), (a_pairings_second, .inl (cI, 7, .inl v_pairings_second)), (a_pairings_chosen, .inl (cI, 7, .inl v_pairings_chosen)), (a_pairings_there, .inl (cI, 81, .inl v_pairings_there)), (a_pairings_back, .inl (cI, 81, .inl v_pairings_back)), (a_pairings_uses, .inl (cI, 81, .inl v_pairings_uses)), (a_pairings_partnerUses, .inl (cI, 81, .inl v_pairings_partnerUses))]) ([.ref a_this, .int q1, .int q2] : List Value).toArray s 0 0 A) (F0 m 0 ls []) by rw [eH, eL] at hG; exact hG
  refine lv_iload_n hx hb dX7_alike_0 rfl (lv_at hl 1 rfl) ?_
  obtain ⟨u1, hu1, hf⟩ := bd_some hf
  refine caSI (rest := []) (As := [.int q1]) (wr := [(a_this, .inr (7, [.ref a_slots, .ref a_script, .ref a_history, .ref a_sums, .ref a_addend, .ref a_grids, .ref a_pairings, .ref a_swellings, .ref a_smallestSets])), (a_slots, .inl (cL, 4, .inr (.inl g_slots))), (a_pairings, .inr (2, [.ref a_pairings_first, .ref a_pairings_second, .ref a_pairings_chosen, .ref a_pairings_there, .ref a_pairings_back, .ref a_pairings_uses, .ref a_pairings_partnerUses, .long g_pairings_firstSet, .long g_pairings_secondSet, .int g_pairings_size, .int g_pairings_taken, .int g_pairings_paired])), (a_pairings_first, .inl (cI, 7, .inl g_pairings_first)), (a_pairings_second, .inl (cI, 7, .inl g_pairings_second)), (a_pairings_chosen, .inl (cI, 7, .inl g_pairings_chosen)), (a_pairings_there, .inl (cI, 81, .inl g_pairings_there)), (a_pairings_back, .inl (cI, 81, .inl g_pairings_back)), (a_pairings_uses, .inl (cI, 81, .inl g_pairings_uses)), (a_pairings_partnerUses, .inl (cI, 81, .inl g_pairings_partnerUses))]) (wo := [(a_this, .inr (7, [.ref a_slots, .ref a_script, .ref a_history, .ref a_sums, .ref a_addend, .ref a_grids, .ref a_pairings, .ref a_swellings, .ref a_smallestSets])), (a_slots, .inl (cL, 4, .inr (.inl g_slots))), (a_pairings, .inr (2, [.ref a_pairings_first, .ref a_pairings_second, .ref a_pairings_chosen, .ref a_pairings_there, .ref a_pairings_back, .ref a_pairings_uses, .ref a_pairings_partnerUses, .long g_pairings_firstSet, .long g_pairings_secondSet, .int g_pairings_size, .int g_pairings_taken, .int g_pairings_paired])), (a_pairings_first, .inl (cI, 7, .inl g_pairings_first)), (a_pairings_second, .inl (cI, 7, .inl g_pairings_second)), (a_pairings_chosen, .inl (cI, 7, .inl g_pairings_chosen)), (a_pairings_there, .inl (cI, 81, .inl g_pairings_there)), (a_pairings_back, .inl (cI, 81, .inl g_pairings_back)), (a_pairings_uses, .inl (cI, 81, .inl g_pairings_uses)), (a_pairings_partnerUses, .inl (cI, 81, .inl g_pairings_partnerUses))]) ⟨hx, hb, hml, hown, hts⟩ hN hP hD hS hA (cX7_isSlot_ct l D cI cL cC cZ q1 u1 hu1) z1 [] [0, 1, 2, 3, 4, 5, 6, 7, 8, 9] [0, 1, 2, 3, 4, 5, 6, 7, 8, 9] rfl (by decide) rfl (by decide) (by decide) rfl (by decide) rfl hl.1 rfl (Nat.le_of_ble_eq_true rfl) dX7_alike_1 ⟨Nat.zero_le _, Nat.zero_le _⟩ (fun H locs hP hD hS => ?_)
  refine lv_if_eq (tgt := 14) hx hb dX7_alike_4 (by decide) (fun c2 => ?_) (fun c2 => ?_)
  · have hf := br_pos c2 hf
    refine lv_iconst (v := -1) hx hb dX7_alike_14 (by decide) ?_
    have hE : ((-1 : Int32), g_pairings_firstSet, g_pairings_secondSet, g_pairings_size, g_pairings_taken, g_pairings_paired, g_pairings_first, g_pairings_second, g_pairings_chosen, g_pairings_there, g_pairings_back, g_pairings_uses, g_pairings_partnerUses) = (r0, v_pairings_firstSet, v_pairings_secondSet, v_pairings_size, v_pairings_taken, v_pairings_paired, v_pairings_first, v_pairings_second, v_pairings_chosen, v_pairings_there, v_pairings_back, v_pairings_uses, v_pairings_partnerUses) := Option.some.inj hf
    simp only [Prod.mk.injEq] at hE
    obtain ⟨rfl, rfl, rfl, rfl, rfl, rfl, rfl, rfl, rfl, rfl, rfl, rfl, rfl⟩ := hE
    exact rtI hx hb hr hlk hP hD hS dX7_alike_15
  · have hf := br_neg c2 hf
    refine lv_iload_n hx hb dX7_alike_7 rfl (lv_at hl 2 rfl) ?_
    obtain ⟨u3, hu3, hf⟩ := bd_some hf
    refine caSI (rest := []) (As := [.int q2]) (wr := [(a_this, .inr (7, [.ref a_slots, .ref a_script, .ref a_history, .ref a_sums, .ref a_addend, .ref a_grids, .ref a_pairings, .ref a_swellings, .ref a_smallestSets])), (a_slots, .inl (cL, 4, .inr (.inl g_slots))), (a_pairings, .inr (2, [.ref a_pairings_first, .ref a_pairings_second, .ref a_pairings_chosen, .ref a_pairings_there, .ref a_pairings_back, .ref a_pairings_uses, .ref a_pairings_partnerUses, .long g_pairings_firstSet, .long g_pairings_secondSet, .int g_pairings_size, .int g_pairings_taken, .int g_pairings_paired])), (a_pairings_first, .inl (cI, 7, .inl g_pairings_first)), (a_pairings_second, .inl (cI, 7, .inl g_pairings_second)), (a_pairings_chosen, .inl (cI, 7, .inl g_pairings_chosen)), (a_pairings_there, .inl (cI, 81, .inl g_pairings_there)), (a_pairings_back, .inl (cI, 81, .inl g_pairings_back)), (a_pairings_uses, .inl (cI, 81, .inl g_pairings_uses)), (a_pairings_partnerUses, .inl (cI, 81, .inl g_pairings_partnerUses))]) (wo := [(a_this, .inr (7, [.ref a_slots, .ref a_script, .ref a_history, .ref a_sums, .ref a_addend, .ref a_grids, .ref a_pairings, .ref a_swellings, .ref a_smallestSets])), (a_slots, .inl (cL, 4, .inr (.inl g_slots))), (a_pairings, .inr (2, [.ref a_pairings_first, .ref a_pairings_second, .ref a_pairings_chosen, .ref a_pairings_there, .ref a_pairings_back, .ref a_pairings_uses, .ref a_pairings_partnerUses, .long g_pairings_firstSet, .long g_pairings_secondSet, .int g_pairings_size, .int g_pairings_taken, .int g_pairings_paired])), (a_pairings_first, .inl (cI, 7, .inl g_pairings_first)), (a_pairings_second, .inl (cI, 7, .inl g_pairings_second)), (a_pairings_chosen, .inl (cI, 7, .inl g_pairings_chosen)), (a_pairings_there, .inl (cI, 81, .inl g_pairings_there)), (a_pairings_back, .inl (cI, 81, .inl g_pairings_back)), (a_pairings_uses, .inl (cI, 81, .inl g_pairings_uses)), (a_pairings_partnerUses, .inl (cI, 81, .inl g_pairings_partnerUses))]) ⟨hx, hb, hml, hown, hts⟩ hN hP hD hS hA (cX7_isSlot_ct l D cI cL cC cZ q2 u3 hu3) z1 [] [0, 1, 2, 3, 4, 5, 6, 7, 8, 9] [0, 1, 2, 3, 4, 5, 6, 7, 8, 9] rfl (by decide) rfl (by decide) (by decide) rfl (by decide) rfl hl.1 rfl (Nat.le_of_ble_eq_true rfl) dX7_alike_8 ⟨Nat.zero_le _, Nat.zero_le _⟩ (fun H locs hP hD hS => ?_)
    refine lv_if_ne (tgt := 16) hx hb dX7_alike_11 (by decide) (fun c4 => ?_) (fun c4 => ?_)
    · have hf := br_neg c4 hf
      refine lv_aload_n hx hb dX7_alike_16 rfl (lv_at hl 0 rfl) ?_
      refine lv_iload_n hx hb dX7_alike_17 rfl (lv_at hl 1 rfl) ?_
      refine lv_iload_n hx hb dX7_alike_18 rfl (lv_at hl 2 rfl) ?_
      obtain ⟨u5, hu5, hf⟩ := bd_some hf
      refine caVI (rest := []) (As := [.int q1, .int q2]) (wr := [(a_pairings, .inr (2, [.ref a_pairings_first, .ref a_pairings_second, .ref a_pairings_chosen, .ref a_pairings_there, .ref a_pairings_back, .ref a_pairings_uses, .ref a_pairings_partnerUses, .long g_pairings_firstSet, .long g_pairings_secondSet, .int g_pairings_size, .int g_pairings_taken, .int g_pairings_paired])), (a_pairings_first, .inl (cI, 7, .inl g_pairings_first)), (a_pairings_second, .inl (cI, 7, .inl g_pairings_second)), (a_pairings_chosen, .inl (cI, 7, .inl g_pairings_chosen)), (a_pairings_there, .inl (cI, 81, .inl g_pairings_there)), (a_pairings_back, .inl (cI, 81, .inl g_pairings_back)), (a_pairings_uses, .inl (cI, 81, .inl g_pairings_uses)), (a_pairings_partnerUses, .inl (cI, 81, .inl g_pairings_partnerUses))]) (wo := [(a_this, .inr (7, [.ref a_slots, .ref a_script, .ref a_history, .ref a_sums, .ref a_addend, .ref a_grids, .ref a_pairings, .ref a_swellings, .ref a_smallestSets])), (a_slots, .inl (cL, 4, .inr (.inl g_slots))), (a_pairings, .inr (2, [.ref a_pairings_first, .ref a_pairings_second, .ref a_pairings_chosen, .ref a_pairings_there, .ref a_pairings_back, .ref a_pairings_uses, .ref a_pairings_partnerUses, .long g_pairings_firstSet, .long g_pairings_secondSet, .int g_pairings_size, .int g_pairings_taken, .int g_pairings_paired])), (a_pairings_first, .inl (cI, 7, .inl g_pairings_first)), (a_pairings_second, .inl (cI, 7, .inl g_pairings_second)), (a_pairings_chosen, .inl (cI, 7, .inl g_pairings_chosen)), (a_pairings_there, .inl (cI, 81, .inl g_pairings_there)), (a_pairings_back, .inl (cI, 81, .inl g_pairings_back)), (a_pairings_uses, .inl (cI, 81, .inl g_pairings_uses)), (a_pairings_partnerUses, .inl (cI, 81, .inl g_pairings_partnerUses))]) ⟨hx, hb, hml, hown, hts⟩ hN hP hD hS hA (cX7_canPair_ct l D cI cL cC cZ a_this a_slots a_script a_history a_sums a_addend a_grids a_pairings a_swellings a_smallestSets g_slots q1 q2 u5 hu5) z2 0 7 rfl rfl [0, 1] [2, 3, 4, 5, 6, 7, 8, 9] [8, 9, 0, 1, 2, 3, 4, 5, 6, 7] rfl (by decide) rfl (by decide) (by decide) rfl (by decide) rfl hl.1 rfl (Nat.le_of_ble_eq_true rfl) dX7_alike_19 ⟨Nat.zero_le _, Nat.zero_le _⟩ (fun H locs hP hD hS => ?_)
      refine lv_if_ne (tgt := 28) hx hb dX7_alike_22 (by decide) (fun c6 => ?_) (fun c6 => ?_)
      · have hf := br_neg c6 hf
        refine lv_aload_n hx hb dX7_alike_28 rfl (lv_at hl 0 rfl) ?_
        refine va_get (D := D) (ci := 7) (v := .ref a_pairings) (C := RX7) (T := TX7) (N := 9) hx hb hts z3 hown hN.1 hP 0 rfl rfl 6 (by decide) z4 (fun _ h9 => h9) rfl dX7_alike_29 ?_
        refine lv_aload_n hx hb dX7_alike_32 rfl (lv_at hl 0 rfl) ?_
        refine va_get (D := D) (ci := 7) (v := .ref a_slots) (C := RX7) (T := TX7) (N := 9) hx hb hts z3 hown hN.1 hP 0 rfl rfl 0 (by decide) z5 (fun _ h9 => h9) rfl dX7_alike_33 ?_
        refine lv_iload_n hx hb dX7_alike_36 rfl (lv_at hl 1 rfl) ?_
        obtain ⟨c7, hf⟩ := gd_some hf
        refine va_lald hx hb hN.1 hP 1 1 rfl rfl (ix_in c7) dX7_alike_37 ?_
        refine lv_aload_n hx hb dX7_alike_38 rfl (lv_at hl 0 rfl) ?_
        refine va_get (D := D) (ci := 7) (v := .ref a_slots) (C := RX7) (T := TX7) (N := 9) hx hb hts z3 hown hN.1 hP 0 rfl rfl 0 (by decide) z5 (fun _ h9 => h9) rfl dX7_alike_39 ?_
        refine lv_iload_n hx hb dX7_alike_42 rfl (lv_at hl 2 rfl) ?_
        obtain ⟨c8, hf⟩ := gd_some hf
        refine va_lald hx hb hN.1 hP 1 1 rfl rfl (ix_in c8) dX7_alike_43 ?_
        obtain ⟨u9, hu9, hf⟩ := bd_some hf
        refine caVI (rest := []) (As := [.long (g_slots q1.toNatClampNeg), .long (g_slots q2.toNatClampNeg)]) (wr := [(a_this, .inr (7, [.ref a_slots, .ref a_script, .ref a_history, .ref a_sums, .ref a_addend, .ref a_grids, .ref a_pairings, .ref a_swellings, .ref a_smallestSets])), (a_slots, .inl (cL, 4, .inr (.inl g_slots)))]) (wo := [(a_this, .inr (7, [.ref a_slots, .ref a_script, .ref a_history, .ref a_sums, .ref a_addend, .ref a_grids, .ref a_pairings, .ref a_swellings, .ref a_smallestSets])), (a_slots, .inl (cL, 4, .inr (.inl g_slots))), (a_pairings, .inr (2, [.ref a_pairings_first, .ref a_pairings_second, .ref a_pairings_chosen, .ref a_pairings_there, .ref a_pairings_back, .ref a_pairings_uses, .ref a_pairings_partnerUses, .long u9.2.1, .long u9.2.2.1, .int u9.2.2.2.1, .int u9.2.2.2.2.1, .int u9.2.2.2.2.2.1])), (a_pairings_first, .inl (cI, 7, .inl u9.2.2.2.2.2.2.1)), (a_pairings_second, .inl (cI, 7, .inl u9.2.2.2.2.2.2.2.1)), (a_pairings_chosen, .inl (cI, 7, .inl u9.2.2.2.2.2.2.2.2.1)), (a_pairings_there, .inl (cI, 81, .inl u9.2.2.2.2.2.2.2.2.2.1)), (a_pairings_back, .inl (cI, 81, .inl u9.2.2.2.2.2.2.2.2.2.2.1)), (a_pairings_uses, .inl (cI, 81, .inl u9.2.2.2.2.2.2.2.2.2.2.2.1)), (a_pairings_partnerUses, .inl (cI, 81, .inl u9.2.2.2.2.2.2.2.2.2.2.2.2))]) ⟨hx, hb, hml, hown, hts⟩ hN hP hD hS hA (cX2_seek_ct l D cI cL cC cZ a_pairings a_pairings_first a_pairings_second a_pairings_chosen a_pairings_there a_pairings_back a_pairings_uses a_pairings_partnerUses g_pairings_firstSet g_pairings_secondSet g_pairings_size g_pairings_taken g_pairings_paired g_pairings_first g_pairings_second g_pairings_chosen g_pairings_there g_pairings_back g_pairings_uses g_pairings_partnerUses (g_slots q1.toNatClampNeg) (g_slots q2.toNatClampNeg) u9.1 u9.2.1 u9.2.2.1 u9.2.2.2.1 u9.2.2.2.2.1 u9.2.2.2.2.2.1 u9.2.2.2.2.2.2.1 u9.2.2.2.2.2.2.2.1 u9.2.2.2.2.2.2.2.2.1 u9.2.2.2.2.2.2.2.2.2.1 u9.2.2.2.2.2.2.2.2.2.2.1 u9.2.2.2.2.2.2.2.2.2.2.2.1 u9.2.2.2.2.2.2.2.2.2.2.2.2 hu9) z6 2 2 rfl rfl [2, 3, 4, 5, 6, 7, 8, 9] [0, 1] [0, 1, 2, 3, 4, 5, 6, 7, 8, 9] rfl (by decide) rfl (by decide) (by decide) rfl (by decide) rfl hl.1 rfl (Nat.le_of_ble_eq_true rfl) dX7_alike_44 ⟨Nat.zero_le _, Nat.zero_le _⟩ (fun H locs hP hD hS => ?_)
        refine lv_if_eq (tgt := 54) hx hb dX7_alike_47 (by decide) (fun c10 => ?_) (fun c10 => ?_)
        · have hf := br_pos c10 hf
          refine lv_iconst (v := 0) hx hb dX7_alike_54 (by decide) ?_
          have hE : ((0 : Int32), u9.2.1, u9.2.2.1, u9.2.2.2.1, u9.2.2.2.2.1, u9.2.2.2.2.2.1, u9.2.2.2.2.2.2.1, u9.2.2.2.2.2.2.2.1, u9.2.2.2.2.2.2.2.2.1, u9.2.2.2.2.2.2.2.2.2.1, u9.2.2.2.2.2.2.2.2.2.2.1, u9.2.2.2.2.2.2.2.2.2.2.2.1, u9.2.2.2.2.2.2.2.2.2.2.2.2) = (r0, v_pairings_firstSet, v_pairings_secondSet, v_pairings_size, v_pairings_taken, v_pairings_paired, v_pairings_first, v_pairings_second, v_pairings_chosen, v_pairings_there, v_pairings_back, v_pairings_uses, v_pairings_partnerUses) := Option.some.inj hf
          simp only [Prod.mk.injEq] at hE
          obtain ⟨rfl, rfl, rfl, rfl, rfl, rfl, rfl, rfl, rfl, rfl, rfl, rfl, rfl⟩ := hE
          exact rtI hx hb hr hlk hP hD hS dX7_alike_55
        · have hf := br_neg c10 hf
          refine lv_iconst (v := 1) hx hb dX7_alike_50 (by decide) ?_
          refine lv_goto (tgt := 55) hx hb dX7_alike_51 (by decide) ?_
          have hE : ((1 : Int32), u9.2.1, u9.2.2.1, u9.2.2.2.1, u9.2.2.2.2.1, u9.2.2.2.2.2.1, u9.2.2.2.2.2.2.1, u9.2.2.2.2.2.2.2.1, u9.2.2.2.2.2.2.2.2.1, u9.2.2.2.2.2.2.2.2.2.1, u9.2.2.2.2.2.2.2.2.2.2.1, u9.2.2.2.2.2.2.2.2.2.2.2.1, u9.2.2.2.2.2.2.2.2.2.2.2.2) = (r0, v_pairings_firstSet, v_pairings_secondSet, v_pairings_size, v_pairings_taken, v_pairings_paired, v_pairings_first, v_pairings_second, v_pairings_chosen, v_pairings_there, v_pairings_back, v_pairings_uses, v_pairings_partnerUses) := Option.some.inj hf
          simp only [Prod.mk.injEq] at hE
          obtain ⟨rfl, rfl, rfl, rfl, rfl, rfl, rfl, rfl, rfl, rfl, rfl, rfl, rfl⟩ := hE
          exact rtI hx hb hr hlk hP hD hS dX7_alike_55
      · have hf := br_pos c6 hf
        refine lv_bipush (v := -2) hx hb dX7_alike_25 (by decide) ?_
        have hE : ((-2 : Int32), g_pairings_firstSet, g_pairings_secondSet, g_pairings_size, g_pairings_taken, g_pairings_paired, g_pairings_first, g_pairings_second, g_pairings_chosen, g_pairings_there, g_pairings_back, g_pairings_uses, g_pairings_partnerUses) = (r0, v_pairings_firstSet, v_pairings_secondSet, v_pairings_size, v_pairings_taken, v_pairings_paired, v_pairings_first, v_pairings_second, v_pairings_chosen, v_pairings_there, v_pairings_back, v_pairings_uses, v_pairings_partnerUses) := Option.some.inj hf
        simp only [Prod.mk.injEq] at hE
        obtain ⟨rfl, rfl, rfl, rfl, rfl, rfl, rfl, rfl, rfl, rfl, rfl, rfl, rfl⟩ := hE
        exact rtI hx hb hr hlk hP hD hS dX7_alike_27
    · have hf := br_pos c4 hf
      refine lv_iconst (v := -1) hx hb dX7_alike_14 (by decide) ?_
      have hE : ((-1 : Int32), g_pairings_firstSet, g_pairings_secondSet, g_pairings_size, g_pairings_taken, g_pairings_paired, g_pairings_first, g_pairings_second, g_pairings_chosen, g_pairings_there, g_pairings_back, g_pairings_uses, g_pairings_partnerUses) = (r0, v_pairings_firstSet, v_pairings_secondSet, v_pairings_size, v_pairings_taken, v_pairings_paired, v_pairings_first, v_pairings_second, v_pairings_chosen, v_pairings_there, v_pairings_back, v_pairings_uses, v_pairings_partnerUses) := Option.some.inj hf
      simp only [Prod.mk.injEq] at hE
      obtain ⟨rfl, rfl, rfl, rfl, rfl, rfl, rfl, rfl, rfl, rfl, rfl, rfl, rfl⟩ := hE
      exact rtI hx hb hr hlk hP hD hS dX7_alike_15
abbrev rmX7_partner : Room := { frames := 12, cells := 0, slots := 0, locals := 567 }
noncomputable def fX7_partner (q1 : Int32) (q2 : Int32) (q3 : Int32) (g_slots : Nat → Int64) (g_pairings_firstSet : Int64) (g_pairings_secondSet : Int64) (g_pairings_size : Int32) (g_pairings_taken : Int32) (g_pairings_paired : Int32) (g_pairings_first : Nat → Int32) (g_pairings_second : Nat → Int32) (g_pairings_chosen : Nat → Int32) (g_pairings_there : Nat → Int32) (g_pairings_back : Nat → Int32) (g_pairings_uses : Nat → Int32) (g_pairings_partnerUses : Nat → Int32) : Option (Int32 × Int64 × Int64 × Int32 × Int32 × Int32 × (Nat → Int32) × (Nat → Int32) × (Nat → Int32) × (Nat → Int32) × (Nat → Int32) × (Nat → Int32) × (Nat → Int32)) := bd (fX7_isSlot q1) (fun u1 => br (u1 = 0) (some (((-1 : Int32), g_pairings_firstSet, g_pairings_secondSet, g_pairings_size, g_pairings_taken, g_pairings_paired, g_pairings_first, g_pairings_second, g_pairings_chosen, g_pairings_there, g_pairings_back, g_pairings_uses, g_pairings_partnerUses))) (bd (fX7_isSlot q2) (fun u3 => br (u3 = 0) (some (((-1 : Int32), g_pairings_firstSet, g_pairings_secondSet, g_pairings_size, g_pairings_taken, g_pairings_paired, g_pairings_first, g_pairings_second, g_pairings_chosen, g_pairings_there, g_pairings_back, g_pairings_uses, g_pairings_partnerUses))) (br (0 ≤ q3) (bd (fX7_canPair q1 q2 g_slots) (fun u6 => br (u6 = 0) (some (((-2 : Int32), g_pairings_firstSet, g_pairings_secondSet, g_pairings_size, g_pairings_taken, g_pairings_paired, g_pairings_first, g_pairings_second, g_pairings_chosen, g_pairings_there, g_pairings_back, g_pairings_uses, g_pairings_partnerUses))) (gd (¬ q1 < 0 ∧ q1.toNatClampNeg < 4) (gd (¬ q2 < 0 ∧ q2.toNatClampNeg < 4) (bd (fX2_seek (g_slots q1.toNatClampNeg) (g_slots q2.toNatClampNeg) g_pairings_firstSet g_pairings_secondSet g_pairings_size g_pairings_taken g_pairings_paired g_pairings_first g_pairings_second g_pairings_chosen g_pairings_there g_pairings_back g_pairings_uses g_pairings_partnerUses) (fun u10 => br (u10.1 = 0) (some (((-4 : Int32), u10.2.1, u10.2.2.1, u10.2.2.2.1, u10.2.2.2.2.1, u10.2.2.2.2.2.1, u10.2.2.2.2.2.2.1, u10.2.2.2.2.2.2.2.1, u10.2.2.2.2.2.2.2.2.1, u10.2.2.2.2.2.2.2.2.2.1, u10.2.2.2.2.2.2.2.2.2.2.1, u10.2.2.2.2.2.2.2.2.2.2.2.1, u10.2.2.2.2.2.2.2.2.2.2.2.2))) (bd (fX2_partnerOf q3 u10.2.2.2.1 u10.2.2.2.2.2.2.2.1 u10.2.2.2.2.2.2.2.2.1) (fun u12 => some ((u12, u10.2.1, u10.2.2.1, u10.2.2.2.1, u10.2.2.2.2.1, u10.2.2.2.2.2.1, u10.2.2.2.2.2.2.1, u10.2.2.2.2.2.2.2.1, u10.2.2.2.2.2.2.2.2.1, u10.2.2.2.2.2.2.2.2.2.1, u10.2.2.2.2.2.2.2.2.2.2.1, u10.2.2.2.2.2.2.2.2.2.2.2.1, u10.2.2.2.2.2.2.2.2.2.2.2.2)))))))))) (some (((-1 : Int32), g_pairings_firstSet, g_pairings_secondSet, g_pairings_size, g_pairings_taken, g_pairings_paired, g_pairings_first, g_pairings_second, g_pairings_chosen, g_pairings_there, g_pairings_back, g_pairings_uses, g_pairings_partnerUses)))))))
set_option maxHeartbeats 4000000 in
set_option maxRecDepth 100000 in
theorem cX7_partner_ct (l : Launch) (D : va_G) (cI cL cC cZ : ClassId) (a_this a_slots a_script a_history a_sums a_addend a_grids a_pairings a_swellings a_smallestSets a_pairings_first a_pairings_second a_pairings_chosen a_pairings_there a_pairings_back a_pairings_uses a_pairings_partnerUses : Nat) (g_slots : Nat → Int64) (g_pairings_firstSet : Int64) (g_pairings_secondSet : Int64) (g_pairings_size : Int32) (g_pairings_taken : Int32) (g_pairings_paired : Int32) (g_pairings_first : Nat → Int32) (g_pairings_second : Nat → Int32) (g_pairings_chosen : Nat → Int32) (g_pairings_there : Nat → Int32) (g_pairings_back : Nat → Int32) (g_pairings_uses : Nat → Int32) (g_pairings_partnerUses : Nat → Int32) (q1 : Int32) (q2 : Int32) (q3 : Int32) (r0 : Int32) (v_pairings_firstSet : Int64) (v_pairings_secondSet : Int64) (v_pairings_size : Int32) (v_pairings_taken : Int32) (v_pairings_paired : Int32) (v_pairings_first : Nat → Int32) (v_pairings_second : Nat → Int32) (v_pairings_chosen : Nat → Int32) (v_pairings_there : Nat → Int32) (v_pairings_back : Nat → Int32) (v_pairings_uses : Nat → Int32) (v_pairings_partnerUses : Nat → Int32) (hf : fX7_partner q1 q2 q3 g_slots g_pairings_firstSet g_pairings_secondSet g_pairings_size g_pairings_taken g_pairings_paired g_pairings_first g_pairings_second g_pairings_chosen g_pairings_there g_pairings_back g_pairings_uses g_pairings_partnerUses = some ((r0, v_pairings_firstSet, v_pairings_secondSet, v_pairings_size, v_pairings_taken, v_pairings_paired, v_pairings_first, v_pairings_second, v_pairings_chosen, v_pairings_there, v_pairings_back, v_pairings_uses, v_pairings_partnerUses))) : CtI l yX7_partner wsX7_partner rmX7_partner D (tyz cI cL cC cZ) [.ref a_this, .int q1, .int q2, .int q3] [(a_this, .inr (7, [.ref a_slots, .ref a_script, .ref a_history, .ref a_sums, .ref a_addend, .ref a_grids, .ref a_pairings, .ref a_swellings, .ref a_smallestSets])), (a_slots, .inl (cL, 4, .inr (.inl g_slots))), (a_pairings, .inr (2, [.ref a_pairings_first, .ref a_pairings_second, .ref a_pairings_chosen, .ref a_pairings_there, .ref a_pairings_back, .ref a_pairings_uses, .ref a_pairings_partnerUses, .long g_pairings_firstSet, .long g_pairings_secondSet, .int g_pairings_size, .int g_pairings_taken, .int g_pairings_paired])), (a_pairings_first, .inl (cI, 7, .inl g_pairings_first)), (a_pairings_second, .inl (cI, 7, .inl g_pairings_second)), (a_pairings_chosen, .inl (cI, 7, .inl g_pairings_chosen)), (a_pairings_there, .inl (cI, 81, .inl g_pairings_there)), (a_pairings_back, .inl (cI, 81, .inl g_pairings_back)), (a_pairings_uses, .inl (cI, 81, .inl g_pairings_uses)), (a_pairings_partnerUses, .inl (cI, 81, .inl g_pairings_partnerUses))] [(a_this, .inr (7, [.ref a_slots, .ref a_script, .ref a_history, .ref a_sums, .ref a_addend, .ref a_grids, .ref a_pairings, .ref a_swellings, .ref a_smallestSets])), (a_slots, .inl (cL, 4, .inr (.inl g_slots))), (a_pairings, .inr (2, [.ref a_pairings_first, .ref a_pairings_second, .ref a_pairings_chosen, .ref a_pairings_there, .ref a_pairings_back, .ref a_pairings_uses, .ref a_pairings_partnerUses, .long v_pairings_firstSet, .long v_pairings_secondSet, .int v_pairings_size, .int v_pairings_taken, .int v_pairings_paired])), (a_pairings_first, .inl (cI, 7, .inl v_pairings_first)), (a_pairings_second, .inl (cI, 7, .inl v_pairings_second)), (a_pairings_chosen, .inl (cI, 7, .inl v_pairings_chosen)), (a_pairings_there, .inl (cI, 81, .inl v_pairings_there)), (a_pairings_back, .inl (cI, 81, .inl v_pairings_back)), (a_pairings_uses, .inl (cI, 81, .inl v_pairings_uses)), (a_pairings_partnerUses, .inl (cI, 81, .inl v_pairings_partnerUses))] r0 := by
  refine CtI.make (cc := cX7_partner) (maxL := 4) (ty := .int) (by decide) rfl (Nat.le_of_ble_eq_true rfl) ?_
  intro p e s m below meth c A ls C0 hN hA hP hD hl
  obtain ⟨hx, hb, hr, hml, hown, hts, hlk⟩ := id C0
  have hown : s.vm.findClass RX7 = some m.cls := hown
  have hS : va_S A s.heap s.heap [] := va_S.rf
  have hP : va_P D vwCl [(a_this, .inr (7, [.ref a_slots, .ref a_script, .ref a_history, .ref a_sums, .ref a_addend, .ref a_grids, .ref a_pairings, .ref a_swellings, .ref a_smallestSets])), (a_slots, .inl (cL, 4, .inr (.inl g_slots))), (a_pairings, .inr (2, [.ref a_pairings_first, .ref a_pairings_second, .ref a_pairings_chosen, .ref a_pairings_there, .ref a_pairings_back, .ref a_pairings_uses, .ref a_pairings_partnerUses, .long g_pairings_firstSet, .long g_pairings_secondSet, .int g_pairings_size, .int g_pairings_taken, .int g_pairings_paired])), (a_pairings_first, .inl (cI, 7, .inl g_pairings_first)), (a_pairings_second, .inl (cI, 7, .inl g_pairings_second)), (a_pairings_chosen, .inl (cI, 7, .inl g_pairings_chosen)), (a_pairings_there, .inl (cI, 81, .inl g_pairings_there)), (a_pairings_back, .inl (cI, 81, .inl g_pairings_back)), (a_pairings_uses, .inl (cI, 81, .inl g_pairings_uses)), (a_pairings_partnerUses, .inl (cI, 81, .inl g_pairings_partnerUses))] s.heap := hP
  have hD : va_D A [(a_this, .inr (7, [.ref a_slots, .ref a_script, .ref a_history, .ref a_sums, .ref a_addend, .ref a_grids, .ref a_pairings, .ref a_swellings, .ref a_smallestSets])), (a_slots, .inl (cL, 4, .inr (.inl g_slots))), (a_pairings, .inr (2, [.ref a_pairings_first, .ref a_pairings_second, .ref a_pairings_chosen, .ref a_pairings_there, .ref a_pairings_back, .ref a_pairings_uses, .ref a_pairings_partnerUses, .long g_pairings_firstSet, .long g_pairings_secondSet, .int g_pairings_size, .int g_pairings_taken, .int g_pairings_paired])), (a_pairings_first, .inl (cI, 7, .inl g_pairings_first)), (a_pairings_second, .inl (cI, 7, .inl g_pairings_second)), (a_pairings_chosen, .inl (cI, 7, .inl g_pairings_chosen)), (a_pairings_there, .inl (cI, 81, .inl g_pairings_there)), (a_pairings_back, .inl (cI, 81, .inl g_pairings_back)), (a_pairings_uses, .inl (cI, 81, .inl g_pairings_uses)), (a_pairings_partnerUses, .inl (cI, 81, .inl g_pairings_partnerUses))] := hD
  have hl : lv_has ls 4 [(0, .ref a_this), (1, .int q1), (2, .int q2), (3, .int q3)] := hl
  have z1 := va_cwS (R := rmX7_partner) (rm := rmX7_isSlot) (mc := 0) (ms := 0) 1 hts gX7_partner_X7_isSlot rfl rfl rfl (by decide +kernel) ⟨Nat.le_of_ble_eq_true rfl, Nat.le_of_ble_eq_true rfl⟩
  have z2 := cwV (R := rmX7_partner) (rm := rmX7_canPair) (mc := 0) (ms := 0) 2 hts gX7_partner_X7_canPair rfl rfl rfl (by decide +kernel) ⟨Nat.le_of_ble_eq_true rfl, Nat.le_of_ble_eq_true rfl⟩
  have z3 : ∀ w ∈ u_ws RX7 TX7 9, w ∈ wsX7_partner := by decide +kernel
  have z4 := hts (.fieldLink RX7 47 "LittleSums" "pairings" "LLittleSums$PairingSearch;") (by decide +kernel)
  have z5 := hts (.fieldLink RX7 9 "LittleSums" "slots" "[J") (by decide +kernel)
  have z6 := cwV (R := rmX7_partner) (rm := rmX2_seek) (mc := 0) (ms := 0) 2 hts gX7_partner_X2_seek rfl rfl rfl (by decide +kernel) ⟨Nat.le_of_ble_eq_true rfl, Nat.le_of_ble_eq_true rfl⟩
  have z7 := cwV (R := rmX7_partner) (rm := rmX2_partnerOf) (mc := 0) (ms := 0) 1 hts gX7_partner_X2_partnerOf rfl rfl rfl (by decide +kernel) ⟨Nat.le_of_ble_eq_true rfl, Nat.le_of_ble_eq_true rfl⟩
  unfold fX7_partner at hf
  obtain ⟨H, eH⟩ : ∃ z, z = s.heap := ⟨_, rfl⟩
  obtain ⟨locs, eL⟩ : ∃ z : List Loc, z = [] := ⟨_, rfl⟩
  have hP : va_P D vwCl [(a_this, .inr (7, [.ref a_slots, .ref a_script, .ref a_history, .ref a_sums, .ref a_addend, .ref a_grids, .ref a_pairings, .ref a_swellings, .ref a_smallestSets])), (a_slots, .inl (cL, 4, .inr (.inl g_slots))), (a_pairings, .inr (2, [.ref a_pairings_first, .ref a_pairings_second, .ref a_pairings_chosen, .ref a_pairings_there, .ref a_pairings_back, .ref a_pairings_uses, .ref a_pairings_partnerUses, .long g_pairings_firstSet, .long g_pairings_secondSet, .int g_pairings_size, .int g_pairings_taken, .int g_pairings_paired])), (a_pairings_first, .inl (cI, 7, .inl g_pairings_first)), (a_pairings_second, .inl (cI, 7, .inl g_pairings_second)), (a_pairings_chosen, .inl (cI, 7, .inl g_pairings_chosen)), (a_pairings_there, .inl (cI, 81, .inl g_pairings_there)), (a_pairings_back, .inl (cI, 81, .inl g_pairings_back)), (a_pairings_uses, .inl (cI, 81, .inl g_pairings_uses)), (a_pairings_partnerUses, .inl (cI, 81, .inl g_pairings_partnerUses))] H := by rw [eH]; exact hP
  have hS : va_S A s.heap H locs := by rw [eH, eL]; exact hS
  suffices hG : W p l e rmX7_partner s m ([.ref a_this, .int q1, .int q2, .int q3] : List Value).toArray below meth c H locs 0 0 (MQ below (cQi D r0 A [(a_this, .inr (7, [.ref a_slots, .ref a_script, .ref a_history, .ref a_sums, .ref a_addend, .ref a_grids, .ref a_pairings, .ref a_swellings, .ref a_smallestSets])), (a_slots, .inl (cL, 4, .inr (.inl g_slots))), (a_pairings, .inr (2, [.ref a_pairings_first, .ref a_pairings_second, .ref a_pairings_chosen, .ref a_pairings_there, .ref a_pairings_back, .ref a_pairings_uses, .ref a_pairings_partnerUses, .long v_pairings_firstSet, .long v_pairings_secondSet, .int v_pairings_size, .int v_pairings_taken, .int v_pairings_paired])), (a_pairings_first, .inl (cI, 7, .inl v_pairings_first)), (a_pairings_second, .inl (cI, 7, .inl v_pairings_second)), (a_pairings_chosen, .inl (cI, 7, .inl v_pairings_chosen)), (a_pairings_there, .inl (cI, 81, .inl v_pairings_there)), (a_pairings_back, .inl (cI, 81, .inl v_pairings_back)), (a_pairings_uses, .inl (cI, 81, .inl v_pairings_uses)), (a_pairings_partnerUses, .inl (cI, 81, .inl v_pairings_partnerUses))]) ([.ref a_this, .int q1, .int q2, .int q3] : List Value).toArray s 0 0 A) (F0 m 0 ls []) by rw [eH, eL] at hG; exact hG
  refine lv_iload_n hx hb dX7_partner_0 rfl (lv_at hl 1 rfl) ?_
  obtain ⟨u1, hu1, hf⟩ := bd_some hf
  refine caSI (rest := []) (As := [.int q1]) (wr := [(a_this, .inr (7, [.ref a_slots, .ref a_script, .ref a_history, .ref a_sums, .ref a_addend, .ref a_grids, .ref a_pairings, .ref a_swellings, .ref a_smallestSets])), (a_slots, .inl (cL, 4, .inr (.inl g_slots))), (a_pairings, .inr (2, [.ref a_pairings_first, .ref a_pairings_second, .ref a_pairings_chosen, .ref a_pairings_there, .ref a_pairings_back, .ref a_pairings_uses, .ref a_pairings_partnerUses, .long g_pairings_firstSet, .long g_pairings_secondSet, .int g_pairings_size, .int g_pairings_taken, .int g_pairings_paired])), (a_pairings_first, .inl (cI, 7, .inl g_pairings_first)), (a_pairings_second, .inl (cI, 7, .inl g_pairings_second)), (a_pairings_chosen, .inl (cI, 7, .inl g_pairings_chosen)), (a_pairings_there, .inl (cI, 81, .inl g_pairings_there)), (a_pairings_back, .inl (cI, 81, .inl g_pairings_back)), (a_pairings_uses, .inl (cI, 81, .inl g_pairings_uses)), (a_pairings_partnerUses, .inl (cI, 81, .inl g_pairings_partnerUses))]) (wo := [(a_this, .inr (7, [.ref a_slots, .ref a_script, .ref a_history, .ref a_sums, .ref a_addend, .ref a_grids, .ref a_pairings, .ref a_swellings, .ref a_smallestSets])), (a_slots, .inl (cL, 4, .inr (.inl g_slots))), (a_pairings, .inr (2, [.ref a_pairings_first, .ref a_pairings_second, .ref a_pairings_chosen, .ref a_pairings_there, .ref a_pairings_back, .ref a_pairings_uses, .ref a_pairings_partnerUses, .long g_pairings_firstSet, .long g_pairings_secondSet, .int g_pairings_size, .int g_pairings_taken, .int g_pairings_paired])), (a_pairings_first, .inl (cI, 7, .inl g_pairings_first)), (a_pairings_second, .inl (cI, 7, .inl g_pairings_second)), (a_pairings_chosen, .inl (cI, 7, .inl g_pairings_chosen)), (a_pairings_there, .inl (cI, 81, .inl g_pairings_there)), (a_pairings_back, .inl (cI, 81, .inl g_pairings_back)), (a_pairings_uses, .inl (cI, 81, .inl g_pairings_uses)), (a_pairings_partnerUses, .inl (cI, 81, .inl g_pairings_partnerUses))]) ⟨hx, hb, hml, hown, hts⟩ hN hP hD hS hA (cX7_isSlot_ct l D cI cL cC cZ q1 u1 hu1) z1 [] [0, 1, 2, 3, 4, 5, 6, 7, 8, 9] [0, 1, 2, 3, 4, 5, 6, 7, 8, 9] rfl (by decide) rfl (by decide) (by decide) rfl (by decide) rfl hl.1 rfl (Nat.le_of_ble_eq_true rfl) dX7_partner_1 ⟨Nat.zero_le _, Nat.zero_le _⟩ (fun H locs hP hD hS => ?_)
  refine lv_if_eq (tgt := 18) hx hb dX7_partner_4 (by decide) (fun c2 => ?_) (fun c2 => ?_)
  · have hf := br_pos c2 hf
    refine lv_iconst (v := -1) hx hb dX7_partner_18 (by decide) ?_
    have hE : ((-1 : Int32), g_pairings_firstSet, g_pairings_secondSet, g_pairings_size, g_pairings_taken, g_pairings_paired, g_pairings_first, g_pairings_second, g_pairings_chosen, g_pairings_there, g_pairings_back, g_pairings_uses, g_pairings_partnerUses) = (r0, v_pairings_firstSet, v_pairings_secondSet, v_pairings_size, v_pairings_taken, v_pairings_paired, v_pairings_first, v_pairings_second, v_pairings_chosen, v_pairings_there, v_pairings_back, v_pairings_uses, v_pairings_partnerUses) := Option.some.inj hf
    simp only [Prod.mk.injEq] at hE
    obtain ⟨rfl, rfl, rfl, rfl, rfl, rfl, rfl, rfl, rfl, rfl, rfl, rfl, rfl⟩ := hE
    exact rtI hx hb hr hlk hP hD hS dX7_partner_19
  · have hf := br_neg c2 hf
    refine lv_iload_n hx hb dX7_partner_7 rfl (lv_at hl 2 rfl) ?_
    obtain ⟨u3, hu3, hf⟩ := bd_some hf
    refine caSI (rest := []) (As := [.int q2]) (wr := [(a_this, .inr (7, [.ref a_slots, .ref a_script, .ref a_history, .ref a_sums, .ref a_addend, .ref a_grids, .ref a_pairings, .ref a_swellings, .ref a_smallestSets])), (a_slots, .inl (cL, 4, .inr (.inl g_slots))), (a_pairings, .inr (2, [.ref a_pairings_first, .ref a_pairings_second, .ref a_pairings_chosen, .ref a_pairings_there, .ref a_pairings_back, .ref a_pairings_uses, .ref a_pairings_partnerUses, .long g_pairings_firstSet, .long g_pairings_secondSet, .int g_pairings_size, .int g_pairings_taken, .int g_pairings_paired])), (a_pairings_first, .inl (cI, 7, .inl g_pairings_first)), (a_pairings_second, .inl (cI, 7, .inl g_pairings_second)), (a_pairings_chosen, .inl (cI, 7, .inl g_pairings_chosen)), (a_pairings_there, .inl (cI, 81, .inl g_pairings_there)), (a_pairings_back, .inl (cI, 81, .inl g_pairings_back)), (a_pairings_uses, .inl (cI, 81, .inl g_pairings_uses)), (a_pairings_partnerUses, .inl (cI, 81, .inl g_pairings_partnerUses))]) (wo := [(a_this, .inr (7, [.ref a_slots, .ref a_script, .ref a_history, .ref a_sums, .ref a_addend, .ref a_grids, .ref a_pairings, .ref a_swellings, .ref a_smallestSets])), (a_slots, .inl (cL, 4, .inr (.inl g_slots))), (a_pairings, .inr (2, [.ref a_pairings_first, .ref a_pairings_second, .ref a_pairings_chosen, .ref a_pairings_there, .ref a_pairings_back, .ref a_pairings_uses, .ref a_pairings_partnerUses, .long g_pairings_firstSet, .long g_pairings_secondSet, .int g_pairings_size, .int g_pairings_taken, .int g_pairings_paired])), (a_pairings_first, .inl (cI, 7, .inl g_pairings_first)), (a_pairings_second, .inl (cI, 7, .inl g_pairings_second)), (a_pairings_chosen, .inl (cI, 7, .inl g_pairings_chosen)), (a_pairings_there, .inl (cI, 81, .inl g_pairings_there)), (a_pairings_back, .inl (cI, 81, .inl g_pairings_back)), (a_pairings_uses, .inl (cI, 81, .inl g_pairings_uses)), (a_pairings_partnerUses, .inl (cI, 81, .inl g_pairings_partnerUses))]) ⟨hx, hb, hml, hown, hts⟩ hN hP hD hS hA (cX7_isSlot_ct l D cI cL cC cZ q2 u3 hu3) z1 [] [0, 1, 2, 3, 4, 5, 6, 7, 8, 9] [0, 1, 2, 3, 4, 5, 6, 7, 8, 9] rfl (by decide) rfl (by decide) (by decide) rfl (by decide) rfl hl.1 rfl (Nat.le_of_ble_eq_true rfl) dX7_partner_8 ⟨Nat.zero_le _, Nat.zero_le _⟩ (fun H locs hP hD hS => ?_)
    refine lv_if_eq (tgt := 18) hx hb dX7_partner_11 (by decide) (fun c4 => ?_) (fun c4 => ?_)
    · have hf := br_pos c4 hf
      refine lv_iconst (v := -1) hx hb dX7_partner_18 (by decide) ?_
      have hE : ((-1 : Int32), g_pairings_firstSet, g_pairings_secondSet, g_pairings_size, g_pairings_taken, g_pairings_paired, g_pairings_first, g_pairings_second, g_pairings_chosen, g_pairings_there, g_pairings_back, g_pairings_uses, g_pairings_partnerUses) = (r0, v_pairings_firstSet, v_pairings_secondSet, v_pairings_size, v_pairings_taken, v_pairings_paired, v_pairings_first, v_pairings_second, v_pairings_chosen, v_pairings_there, v_pairings_back, v_pairings_uses, v_pairings_partnerUses) := Option.some.inj hf
      simp only [Prod.mk.injEq] at hE
      obtain ⟨rfl, rfl, rfl, rfl, rfl, rfl, rfl, rfl, rfl, rfl, rfl, rfl, rfl⟩ := hE
      exact rtI hx hb hr hlk hP hD hS dX7_partner_19
    · have hf := br_neg c4 hf
      refine lv_iload_n hx hb dX7_partner_14 rfl (lv_at hl 3 rfl) ?_
      refine lv_if_ge (tgt := 20) hx hb dX7_partner_15 (by decide) (fun c5 => ?_) (fun c5 => ?_)
      · have hf := br_pos c5 hf
        refine lv_aload_n hx hb dX7_partner_20 rfl (lv_at hl 0 rfl) ?_
        refine lv_iload_n hx hb dX7_partner_21 rfl (lv_at hl 1 rfl) ?_
        refine lv_iload_n hx hb dX7_partner_22 rfl (lv_at hl 2 rfl) ?_
        obtain ⟨u6, hu6, hf⟩ := bd_some hf
        refine caVI (rest := []) (As := [.int q1, .int q2]) (wr := [(a_pairings, .inr (2, [.ref a_pairings_first, .ref a_pairings_second, .ref a_pairings_chosen, .ref a_pairings_there, .ref a_pairings_back, .ref a_pairings_uses, .ref a_pairings_partnerUses, .long g_pairings_firstSet, .long g_pairings_secondSet, .int g_pairings_size, .int g_pairings_taken, .int g_pairings_paired])), (a_pairings_first, .inl (cI, 7, .inl g_pairings_first)), (a_pairings_second, .inl (cI, 7, .inl g_pairings_second)), (a_pairings_chosen, .inl (cI, 7, .inl g_pairings_chosen)), (a_pairings_there, .inl (cI, 81, .inl g_pairings_there)), (a_pairings_back, .inl (cI, 81, .inl g_pairings_back)), (a_pairings_uses, .inl (cI, 81, .inl g_pairings_uses)), (a_pairings_partnerUses, .inl (cI, 81, .inl g_pairings_partnerUses))]) (wo := [(a_this, .inr (7, [.ref a_slots, .ref a_script, .ref a_history, .ref a_sums, .ref a_addend, .ref a_grids, .ref a_pairings, .ref a_swellings, .ref a_smallestSets])), (a_slots, .inl (cL, 4, .inr (.inl g_slots))), (a_pairings, .inr (2, [.ref a_pairings_first, .ref a_pairings_second, .ref a_pairings_chosen, .ref a_pairings_there, .ref a_pairings_back, .ref a_pairings_uses, .ref a_pairings_partnerUses, .long g_pairings_firstSet, .long g_pairings_secondSet, .int g_pairings_size, .int g_pairings_taken, .int g_pairings_paired])), (a_pairings_first, .inl (cI, 7, .inl g_pairings_first)), (a_pairings_second, .inl (cI, 7, .inl g_pairings_second)), (a_pairings_chosen, .inl (cI, 7, .inl g_pairings_chosen)), (a_pairings_there, .inl (cI, 81, .inl g_pairings_there)), (a_pairings_back, .inl (cI, 81, .inl g_pairings_back)), (a_pairings_uses, .inl (cI, 81, .inl g_pairings_uses)), (a_pairings_partnerUses, .inl (cI, 81, .inl g_pairings_partnerUses))]) ⟨hx, hb, hml, hown, hts⟩ hN hP hD hS hA (cX7_canPair_ct l D cI cL cC cZ a_this a_slots a_script a_history a_sums a_addend a_grids a_pairings a_swellings a_smallestSets g_slots q1 q2 u6 hu6) z2 0 7 rfl rfl [0, 1] [2, 3, 4, 5, 6, 7, 8, 9] [8, 9, 0, 1, 2, 3, 4, 5, 6, 7] rfl (by decide) rfl (by decide) (by decide) rfl (by decide) rfl hl.1 rfl (Nat.le_of_ble_eq_true rfl) dX7_partner_23 ⟨Nat.zero_le _, Nat.zero_le _⟩ (fun H locs hP hD hS => ?_)
        refine lv_if_ne (tgt := 32) hx hb dX7_partner_26 (by decide) (fun c7 => ?_) (fun c7 => ?_)
        · have hf := br_neg c7 hf
          refine lv_aload_n hx hb dX7_partner_32 rfl (lv_at hl 0 rfl) ?_
          refine va_get (D := D) (ci := 7) (v := .ref a_pairings) (C := RX7) (T := TX7) (N := 9) hx hb hts z3 hown hN.1 hP 0 rfl rfl 6 (by decide) z4 (fun _ h9 => h9) rfl dX7_partner_33 ?_
          refine lv_aload_n hx hb dX7_partner_36 rfl (lv_at hl 0 rfl) ?_
          refine va_get (D := D) (ci := 7) (v := .ref a_slots) (C := RX7) (T := TX7) (N := 9) hx hb hts z3 hown hN.1 hP 0 rfl rfl 0 (by decide) z5 (fun _ h9 => h9) rfl dX7_partner_37 ?_
          refine lv_iload_n hx hb dX7_partner_40 rfl (lv_at hl 1 rfl) ?_
          obtain ⟨c8, hf⟩ := gd_some hf
          refine va_lald hx hb hN.1 hP 1 1 rfl rfl (ix_in c8) dX7_partner_41 ?_
          refine lv_aload_n hx hb dX7_partner_42 rfl (lv_at hl 0 rfl) ?_
          refine va_get (D := D) (ci := 7) (v := .ref a_slots) (C := RX7) (T := TX7) (N := 9) hx hb hts z3 hown hN.1 hP 0 rfl rfl 0 (by decide) z5 (fun _ h9 => h9) rfl dX7_partner_43 ?_
          refine lv_iload_n hx hb dX7_partner_46 rfl (lv_at hl 2 rfl) ?_
          obtain ⟨c9, hf⟩ := gd_some hf
          refine va_lald hx hb hN.1 hP 1 1 rfl rfl (ix_in c9) dX7_partner_47 ?_
          obtain ⟨u10, hu10, hf⟩ := bd_some hf
          refine caVI (rest := []) (As := [.long (g_slots q1.toNatClampNeg), .long (g_slots q2.toNatClampNeg)]) (wr := [(a_this, .inr (7, [.ref a_slots, .ref a_script, .ref a_history, .ref a_sums, .ref a_addend, .ref a_grids, .ref a_pairings, .ref a_swellings, .ref a_smallestSets])), (a_slots, .inl (cL, 4, .inr (.inl g_slots)))]) (wo := [(a_this, .inr (7, [.ref a_slots, .ref a_script, .ref a_history, .ref a_sums, .ref a_addend, .ref a_grids, .ref a_pairings, .ref a_swellings, .ref a_smallestSets])), (a_slots, .inl (cL, 4, .inr (.inl g_slots))), (a_pairings, .inr (2, [.ref a_pairings_first, .ref a_pairings_second, .ref a_pairings_chosen, .ref a_pairings_there, .ref a_pairings_back, .ref a_pairings_uses, .ref a_pairings_partnerUses, .long u10.2.1, .long u10.2.2.1, .int u10.2.2.2.1, .int u10.2.2.2.2.1, .int u10.2.2.2.2.2.1])), (a_pairings_first, .inl (cI, 7, .inl u10.2.2.2.2.2.2.1)), (a_pairings_second, .inl (cI, 7, .inl u10.2.2.2.2.2.2.2.1)), (a_pairings_chosen, .inl (cI, 7, .inl u10.2.2.2.2.2.2.2.2.1)), (a_pairings_there, .inl (cI, 81, .inl u10.2.2.2.2.2.2.2.2.2.1)), (a_pairings_back, .inl (cI, 81, .inl u10.2.2.2.2.2.2.2.2.2.2.1)), (a_pairings_uses, .inl (cI, 81, .inl u10.2.2.2.2.2.2.2.2.2.2.2.1)), (a_pairings_partnerUses, .inl (cI, 81, .inl u10.2.2.2.2.2.2.2.2.2.2.2.2))]) ⟨hx, hb, hml, hown, hts⟩ hN hP hD hS hA (cX2_seek_ct l D cI cL cC cZ a_pairings a_pairings_first a_pairings_second a_pairings_chosen a_pairings_there a_pairings_back a_pairings_uses a_pairings_partnerUses g_pairings_firstSet g_pairings_secondSet g_pairings_size g_pairings_taken g_pairings_paired g_pairings_first g_pairings_second g_pairings_chosen g_pairings_there g_pairings_back g_pairings_uses g_pairings_partnerUses (g_slots q1.toNatClampNeg) (g_slots q2.toNatClampNeg) u10.1 u10.2.1 u10.2.2.1 u10.2.2.2.1 u10.2.2.2.2.1 u10.2.2.2.2.2.1 u10.2.2.2.2.2.2.1 u10.2.2.2.2.2.2.2.1 u10.2.2.2.2.2.2.2.2.1 u10.2.2.2.2.2.2.2.2.2.1 u10.2.2.2.2.2.2.2.2.2.2.1 u10.2.2.2.2.2.2.2.2.2.2.2.1 u10.2.2.2.2.2.2.2.2.2.2.2.2 hu10) z6 2 2 rfl rfl [2, 3, 4, 5, 6, 7, 8, 9] [0, 1] [0, 1, 2, 3, 4, 5, 6, 7, 8, 9] rfl (by decide) rfl (by decide) (by decide) rfl (by decide) rfl hl.1 rfl (Nat.le_of_ble_eq_true rfl) dX7_partner_48 ⟨Nat.zero_le _, Nat.zero_le _⟩ (fun H locs hP hD hS => ?_)
          refine lv_if_eq (tgt := 65) hx hb dX7_partner_51 (by decide) (fun c11 => ?_) (fun c11 => ?_)
          · have hf := br_pos c11 hf
            refine lv_bipush (v := -4) hx hb dX7_partner_65 (by decide) ?_
            have hE : ((-4 : Int32), u10.2.1, u10.2.2.1, u10.2.2.2.1, u10.2.2.2.2.1, u10.2.2.2.2.2.1, u10.2.2.2.2.2.2.1, u10.2.2.2.2.2.2.2.1, u10.2.2.2.2.2.2.2.2.1, u10.2.2.2.2.2.2.2.2.2.1, u10.2.2.2.2.2.2.2.2.2.2.1, u10.2.2.2.2.2.2.2.2.2.2.2.1, u10.2.2.2.2.2.2.2.2.2.2.2.2) = (r0, v_pairings_firstSet, v_pairings_secondSet, v_pairings_size, v_pairings_taken, v_pairings_paired, v_pairings_first, v_pairings_second, v_pairings_chosen, v_pairings_there, v_pairings_back, v_pairings_uses, v_pairings_partnerUses) := Option.some.inj hf
            simp only [Prod.mk.injEq] at hE
            obtain ⟨rfl, rfl, rfl, rfl, rfl, rfl, rfl, rfl, rfl, rfl, rfl, rfl, rfl⟩ := hE
            exact rtI hx hb hr hlk hP hD hS dX7_partner_67
          · have hf := br_neg c11 hf
            refine lv_aload_n hx hb dX7_partner_54 rfl (lv_at hl 0 rfl) ?_
            refine va_get (D := D) (ci := 7) (v := .ref a_pairings) (C := RX7) (T := TX7) (N := 9) hx hb hts z3 hown hN.1 hP 0 rfl rfl 6 (by decide) z4 (fun _ h9 => h9) rfl dX7_partner_55 ?_
            refine lv_iload_n hx hb dX7_partner_58 rfl (lv_at hl 3 rfl) ?_
            obtain ⟨u12, hu12, hf⟩ := bd_some hf
            refine caVI (rest := []) (As := [.int q3]) (wr := [(a_this, .inr (7, [.ref a_slots, .ref a_script, .ref a_history, .ref a_sums, .ref a_addend, .ref a_grids, .ref a_pairings, .ref a_swellings, .ref a_smallestSets])), (a_slots, .inl (cL, 4, .inr (.inl g_slots))), (a_pairings_first, .inl (cI, 7, .inl u10.2.2.2.2.2.2.1)), (a_pairings_there, .inl (cI, 81, .inl u10.2.2.2.2.2.2.2.2.2.1)), (a_pairings_back, .inl (cI, 81, .inl u10.2.2.2.2.2.2.2.2.2.2.1)), (a_pairings_uses, .inl (cI, 81, .inl u10.2.2.2.2.2.2.2.2.2.2.2.1)), (a_pairings_partnerUses, .inl (cI, 81, .inl u10.2.2.2.2.2.2.2.2.2.2.2.2))]) (wo := [(a_this, .inr (7, [.ref a_slots, .ref a_script, .ref a_history, .ref a_sums, .ref a_addend, .ref a_grids, .ref a_pairings, .ref a_swellings, .ref a_smallestSets])), (a_slots, .inl (cL, 4, .inr (.inl g_slots))), (a_pairings, .inr (2, [.ref a_pairings_first, .ref a_pairings_second, .ref a_pairings_chosen, .ref a_pairings_there, .ref a_pairings_back, .ref a_pairings_uses, .ref a_pairings_partnerUses, .long u10.2.1, .long u10.2.2.1, .int u10.2.2.2.1, .int u10.2.2.2.2.1, .int u10.2.2.2.2.2.1])), (a_pairings_first, .inl (cI, 7, .inl u10.2.2.2.2.2.2.1)), (a_pairings_second, .inl (cI, 7, .inl u10.2.2.2.2.2.2.2.1)), (a_pairings_chosen, .inl (cI, 7, .inl u10.2.2.2.2.2.2.2.2.1)), (a_pairings_there, .inl (cI, 81, .inl u10.2.2.2.2.2.2.2.2.2.1)), (a_pairings_back, .inl (cI, 81, .inl u10.2.2.2.2.2.2.2.2.2.2.1)), (a_pairings_uses, .inl (cI, 81, .inl u10.2.2.2.2.2.2.2.2.2.2.2.1)), (a_pairings_partnerUses, .inl (cI, 81, .inl u10.2.2.2.2.2.2.2.2.2.2.2.2))]) ⟨hx, hb, hml, hown, hts⟩ hN hP hD hS hA (cX2_partnerOf_ct l D cI cL cC cZ a_pairings a_pairings_first a_pairings_second a_pairings_chosen a_pairings_there a_pairings_back a_pairings_uses a_pairings_partnerUses u10.2.1 u10.2.2.1 u10.2.2.2.1 u10.2.2.2.2.1 u10.2.2.2.2.2.1 u10.2.2.2.2.2.2.2.1 u10.2.2.2.2.2.2.2.2.1 q3 u12 hu12) z7 2 2 rfl rfl [2, 4, 5] [0, 1, 3, 6, 7, 8, 9] [0, 1, 7, 2, 8, 9, 3, 4, 5, 6] rfl (by decide) rfl (by decide) (by decide) rfl (by decide) rfl hl.1 rfl (Nat.le_of_ble_eq_true rfl) dX7_partner_59 ⟨Nat.zero_le _, Nat.zero_le _⟩ (fun H locs hP hD hS => ?_)
            refine lv_goto (tgt := 67) hx hb dX7_partner_62 (by decide) ?_
            have hE : (u12, u10.2.1, u10.2.2.1, u10.2.2.2.1, u10.2.2.2.2.1, u10.2.2.2.2.2.1, u10.2.2.2.2.2.2.1, u10.2.2.2.2.2.2.2.1, u10.2.2.2.2.2.2.2.2.1, u10.2.2.2.2.2.2.2.2.2.1, u10.2.2.2.2.2.2.2.2.2.2.1, u10.2.2.2.2.2.2.2.2.2.2.2.1, u10.2.2.2.2.2.2.2.2.2.2.2.2) = (r0, v_pairings_firstSet, v_pairings_secondSet, v_pairings_size, v_pairings_taken, v_pairings_paired, v_pairings_first, v_pairings_second, v_pairings_chosen, v_pairings_there, v_pairings_back, v_pairings_uses, v_pairings_partnerUses) := Option.some.inj hf
            simp only [Prod.mk.injEq] at hE
            obtain ⟨rfl, rfl, rfl, rfl, rfl, rfl, rfl, rfl, rfl, rfl, rfl, rfl, rfl⟩ := hE
            exact rtI hx hb hr hlk hP hD hS dX7_partner_67
        · have hf := br_pos c7 hf
          refine lv_bipush (v := -2) hx hb dX7_partner_29 (by decide) ?_
          have hE : ((-2 : Int32), g_pairings_firstSet, g_pairings_secondSet, g_pairings_size, g_pairings_taken, g_pairings_paired, g_pairings_first, g_pairings_second, g_pairings_chosen, g_pairings_there, g_pairings_back, g_pairings_uses, g_pairings_partnerUses) = (r0, v_pairings_firstSet, v_pairings_secondSet, v_pairings_size, v_pairings_taken, v_pairings_paired, v_pairings_first, v_pairings_second, v_pairings_chosen, v_pairings_there, v_pairings_back, v_pairings_uses, v_pairings_partnerUses) := Option.some.inj hf
          simp only [Prod.mk.injEq] at hE
          obtain ⟨rfl, rfl, rfl, rfl, rfl, rfl, rfl, rfl, rfl, rfl, rfl, rfl, rfl⟩ := hE
          exact rtI hx hb hr hlk hP hD hS dX7_partner_31
      · have hf := br_neg c5 hf
        refine lv_iconst (v := -1) hx hb dX7_partner_18 (by decide) ?_
        have hE : ((-1 : Int32), g_pairings_firstSet, g_pairings_secondSet, g_pairings_size, g_pairings_taken, g_pairings_paired, g_pairings_first, g_pairings_second, g_pairings_chosen, g_pairings_there, g_pairings_back, g_pairings_uses, g_pairings_partnerUses) = (r0, v_pairings_firstSet, v_pairings_secondSet, v_pairings_size, v_pairings_taken, v_pairings_paired, v_pairings_first, v_pairings_second, v_pairings_chosen, v_pairings_there, v_pairings_back, v_pairings_uses, v_pairings_partnerUses) := Option.some.inj hf
        simp only [Prod.mk.injEq] at hE
        obtain ⟨rfl, rfl, rfl, rfl, rfl, rfl, rfl, rfl, rfl, rfl, rfl, rfl, rfl⟩ := hE
        exact rtI hx hb hr hlk hP hD hS dX7_partner_19
abbrev rmX7_swell : Room := { frames := 4, cells := 0, slots := 0, locals := 92 }
noncomputable def fX7_swell (q1 : Int32) (q2 : Int32) (q3 : Int32) (g_slots : Nat → Int64) (g_swellings_whole : Int64) (g_swellings_added : Int64) (g_swellings_bestPart : Int32) (g_swellings_bestSums : Int32) (g_swellings_bestSize : Int32) (g_swellings_numbers : Nat → Int32) (g_swellings_low : Nat → Int64) (g_swellings_high : Nat → Int64) : Option (Int32 × Int64 × Int64 × Int32 × Int32 × Int32 × (Nat → Int32) × (Nat → Int64) × (Nat → Int64)) := bd (fX7_isSlot q1) (fun u1 => br (u1 = 0) (some (((-1 : Int32), g_swellings_whole, g_swellings_added, g_swellings_bestPart, g_swellings_bestSums, g_swellings_bestSize, g_swellings_numbers, g_swellings_low, g_swellings_high))) (bd (fX7_isSlot q2) (fun u3 => br (u3 = 0) (some (((-1 : Int32), g_swellings_whole, g_swellings_added, g_swellings_bestPart, g_swellings_bestSums, g_swellings_bestSize, g_swellings_numbers, g_swellings_low, g_swellings_high))) (br (q3 < 0) (some (((-1 : Int32), g_swellings_whole, g_swellings_added, g_swellings_bestPart, g_swellings_bestSums, g_swellings_bestSize, g_swellings_numbers, g_swellings_low, g_swellings_high))) (br (q3 ≤ (2 : Int32)) (bd (fX7_canSwell q1 q2 g_slots) (fun u7 => br (u7 = 0) (some (((-2 : Int32), g_swellings_whole, g_swellings_added, g_swellings_bestPart, g_swellings_bestSums, g_swellings_bestSize, g_swellings_numbers, g_swellings_low, g_swellings_high))) (gd (¬ q1 < 0 ∧ q1.toNatClampNeg < 4) (gd (¬ q2 < 0 ∧ q2.toNatClampNeg < 4) (bd (fX5_seek (g_slots q1.toNatClampNeg) (g_slots q2.toNatClampNeg) g_swellings_whole g_swellings_added g_swellings_bestPart g_swellings_bestSums g_swellings_bestSize g_swellings_numbers g_swellings_low g_swellings_high) (fun u11 => bd (fX5_answer q3 u11.2.2.1 u11.2.2.2.1 u11.2.2.2.2.1) (fun u12 => some ((u12, u11.1, u11.2.1, u11.2.2.1, u11.2.2.2.1, u11.2.2.2.2.1, u11.2.2.2.2.2.1, u11.2.2.2.2.2.2.1, u11.2.2.2.2.2.2.2))))))))) (some (((-1 : Int32), g_swellings_whole, g_swellings_added, g_swellings_bestPart, g_swellings_bestSums, g_swellings_bestSize, g_swellings_numbers, g_swellings_low, g_swellings_high))))))))
set_option maxHeartbeats 4000000 in
set_option maxRecDepth 100000 in
theorem cX7_swell_ct (l : Launch) (D : va_G) (cI cL cC cZ : ClassId) (a_this a_slots a_script a_history a_sums a_addend a_grids a_pairings a_swellings a_smallestSets a_swellings_numbers a_swellings_low a_swellings_high : Nat) (g_slots : Nat → Int64) (g_swellings_whole : Int64) (g_swellings_added : Int64) (g_swellings_bestPart : Int32) (g_swellings_bestSums : Int32) (g_swellings_bestSize : Int32) (g_swellings_numbers : Nat → Int32) (g_swellings_low : Nat → Int64) (g_swellings_high : Nat → Int64) (q1 : Int32) (q2 : Int32) (q3 : Int32) (r0 : Int32) (v_swellings_whole : Int64) (v_swellings_added : Int64) (v_swellings_bestPart : Int32) (v_swellings_bestSums : Int32) (v_swellings_bestSize : Int32) (v_swellings_numbers : Nat → Int32) (v_swellings_low : Nat → Int64) (v_swellings_high : Nat → Int64) (hf : fX7_swell q1 q2 q3 g_slots g_swellings_whole g_swellings_added g_swellings_bestPart g_swellings_bestSums g_swellings_bestSize g_swellings_numbers g_swellings_low g_swellings_high = some ((r0, v_swellings_whole, v_swellings_added, v_swellings_bestPart, v_swellings_bestSums, v_swellings_bestSize, v_swellings_numbers, v_swellings_low, v_swellings_high))) : CtI l yX7_swell wsX7_swell rmX7_swell D (tyz cI cL cC cZ) [.ref a_this, .int q1, .int q2, .int q3] [(a_this, .inr (7, [.ref a_slots, .ref a_script, .ref a_history, .ref a_sums, .ref a_addend, .ref a_grids, .ref a_pairings, .ref a_swellings, .ref a_smallestSets])), (a_slots, .inl (cL, 4, .inr (.inl g_slots))), (a_swellings, .inr (5, [.ref a_swellings_numbers, .ref a_swellings_low, .ref a_swellings_high, .long g_swellings_whole, .long g_swellings_added, .int g_swellings_bestPart, .int g_swellings_bestSums, .int g_swellings_bestSize])), (a_swellings_numbers, .inl (cI, 12, .inl g_swellings_numbers)), (a_swellings_low, .inl (cL, 13, .inr (.inl g_swellings_low))), (a_swellings_high, .inl (cL, 13, .inr (.inl g_swellings_high)))] [(a_this, .inr (7, [.ref a_slots, .ref a_script, .ref a_history, .ref a_sums, .ref a_addend, .ref a_grids, .ref a_pairings, .ref a_swellings, .ref a_smallestSets])), (a_slots, .inl (cL, 4, .inr (.inl g_slots))), (a_swellings, .inr (5, [.ref a_swellings_numbers, .ref a_swellings_low, .ref a_swellings_high, .long v_swellings_whole, .long v_swellings_added, .int v_swellings_bestPart, .int v_swellings_bestSums, .int v_swellings_bestSize])), (a_swellings_numbers, .inl (cI, 12, .inl v_swellings_numbers)), (a_swellings_low, .inl (cL, 13, .inr (.inl v_swellings_low))), (a_swellings_high, .inl (cL, 13, .inr (.inl v_swellings_high)))] r0 := by
  refine CtI.make (cc := cX7_swell) (maxL := 4) (ty := .int) (by decide) rfl (Nat.le_of_ble_eq_true rfl) ?_
  intro p e s m below meth c A ls C0 hN hA hP hD hl
  obtain ⟨hx, hb, hr, hml, hown, hts, hlk⟩ := id C0
  have hown : s.vm.findClass RX7 = some m.cls := hown
  have hS : va_S A s.heap s.heap [] := va_S.rf
  have hP : va_P D vwCl [(a_this, .inr (7, [.ref a_slots, .ref a_script, .ref a_history, .ref a_sums, .ref a_addend, .ref a_grids, .ref a_pairings, .ref a_swellings, .ref a_smallestSets])), (a_slots, .inl (cL, 4, .inr (.inl g_slots))), (a_swellings, .inr (5, [.ref a_swellings_numbers, .ref a_swellings_low, .ref a_swellings_high, .long g_swellings_whole, .long g_swellings_added, .int g_swellings_bestPart, .int g_swellings_bestSums, .int g_swellings_bestSize])), (a_swellings_numbers, .inl (cI, 12, .inl g_swellings_numbers)), (a_swellings_low, .inl (cL, 13, .inr (.inl g_swellings_low))), (a_swellings_high, .inl (cL, 13, .inr (.inl g_swellings_high)))] s.heap := hP
  have hD : va_D A [(a_this, .inr (7, [.ref a_slots, .ref a_script, .ref a_history, .ref a_sums, .ref a_addend, .ref a_grids, .ref a_pairings, .ref a_swellings, .ref a_smallestSets])), (a_slots, .inl (cL, 4, .inr (.inl g_slots))), (a_swellings, .inr (5, [.ref a_swellings_numbers, .ref a_swellings_low, .ref a_swellings_high, .long g_swellings_whole, .long g_swellings_added, .int g_swellings_bestPart, .int g_swellings_bestSums, .int g_swellings_bestSize])), (a_swellings_numbers, .inl (cI, 12, .inl g_swellings_numbers)), (a_swellings_low, .inl (cL, 13, .inr (.inl g_swellings_low))), (a_swellings_high, .inl (cL, 13, .inr (.inl g_swellings_high)))] := hD
  have hl : lv_has ls 4 [(0, .ref a_this), (1, .int q1), (2, .int q2), (3, .int q3)] := hl
  have z1 := va_cwS (R := rmX7_swell) (rm := rmX7_isSlot) (mc := 0) (ms := 0) 1 hts gX7_swell_X7_isSlot rfl rfl rfl (by decide +kernel) ⟨Nat.le_of_ble_eq_true rfl, Nat.le_of_ble_eq_true rfl⟩
  have z2 := cwV (R := rmX7_swell) (rm := rmX7_canSwell) (mc := 0) (ms := 0) 2 hts gX7_swell_X7_canSwell rfl rfl rfl (by decide +kernel) ⟨Nat.le_of_ble_eq_true rfl, Nat.le_of_ble_eq_true rfl⟩
  have z3 : ∀ w ∈ u_ws RX7 TX7 9, w ∈ wsX7_swell := by decide +kernel
  have z4 := hts (.fieldLink RX7 54 "LittleSums" "swellings" "LLittleSums$SwellingSearch;") (by decide +kernel)
  have z5 := hts (.fieldLink RX7 9 "LittleSums" "slots" "[J") (by decide +kernel)
  have z6 := cwV (R := rmX7_swell) (rm := rmX5_seek) (mc := 0) (ms := 0) 2 hts gX7_swell_X5_seek rfl rfl rfl (by decide +kernel) ⟨Nat.le_of_ble_eq_true rfl, Nat.le_of_ble_eq_true rfl⟩
  have z7 := cwV (R := rmX7_swell) (rm := rmX5_answer) (mc := 0) (ms := 0) 1 hts gX7_swell_X5_answer rfl rfl rfl (by decide +kernel) ⟨Nat.le_of_ble_eq_true rfl, Nat.le_of_ble_eq_true rfl⟩
  unfold fX7_swell at hf
  obtain ⟨H, eH⟩ : ∃ z, z = s.heap := ⟨_, rfl⟩
  obtain ⟨locs, eL⟩ : ∃ z : List Loc, z = [] := ⟨_, rfl⟩
  have hP : va_P D vwCl [(a_this, .inr (7, [.ref a_slots, .ref a_script, .ref a_history, .ref a_sums, .ref a_addend, .ref a_grids, .ref a_pairings, .ref a_swellings, .ref a_smallestSets])), (a_slots, .inl (cL, 4, .inr (.inl g_slots))), (a_swellings, .inr (5, [.ref a_swellings_numbers, .ref a_swellings_low, .ref a_swellings_high, .long g_swellings_whole, .long g_swellings_added, .int g_swellings_bestPart, .int g_swellings_bestSums, .int g_swellings_bestSize])), (a_swellings_numbers, .inl (cI, 12, .inl g_swellings_numbers)), (a_swellings_low, .inl (cL, 13, .inr (.inl g_swellings_low))), (a_swellings_high, .inl (cL, 13, .inr (.inl g_swellings_high)))] H := by rw [eH]; exact hP
  have hS : va_S A s.heap H locs := by rw [eH, eL]; exact hS
  suffices hG : W p l e rmX7_swell s m ([.ref a_this, .int q1, .int q2, .int q3] : List Value).toArray below meth c H locs 0 0 (MQ below (cQi D r0 A [(a_this, .inr (7, [.ref a_slots, .ref a_script, .ref a_history, .ref a_sums, .ref a_addend, .ref a_grids, .ref a_pairings, .ref a_swellings, .ref a_smallestSets])), (a_slots, .inl (cL, 4, .inr (.inl g_slots))), (a_swellings, .inr (5, [.ref a_swellings_numbers, .ref a_swellings_low, .ref a_swellings_high, .long v_swellings_whole, .long v_swellings_added, .int v_swellings_bestPart, .int v_swellings_bestSums, .int v_swellings_bestSize])), (a_swellings_numbers, .inl (cI, 12, .inl v_swellings_numbers)), (a_swellings_low, .inl (cL, 13, .inr (.inl v_swellings_low))), (a_swellings_high, .inl (cL, 13, .inr (.inl v_swellings_high)))]) ([.ref a_this, .int q1, .int q2, .int q3] : List Value).toArray s 0 0 A) (F0 m 0 ls []) by rw [eH, eL] at hG; exact hG
  refine lv_iload_n hx hb dX7_swell_0 rfl (lv_at hl 1 rfl) ?_
  obtain ⟨u1, hu1, hf⟩ := bd_some hf
  refine caSI (rest := []) (As := [.int q1]) (wr := [(a_this, .inr (7, [.ref a_slots, .ref a_script, .ref a_history, .ref a_sums, .ref a_addend, .ref a_grids, .ref a_pairings, .ref a_swellings, .ref a_smallestSets])), (a_slots, .inl (cL, 4, .inr (.inl g_slots))), (a_swellings, .inr (5, [.ref a_swellings_numbers, .ref a_swellings_low, .ref a_swellings_high, .long g_swellings_whole, .long g_swellings_added, .int g_swellings_bestPart, .int g_swellings_bestSums, .int g_swellings_bestSize])), (a_swellings_numbers, .inl (cI, 12, .inl g_swellings_numbers)), (a_swellings_low, .inl (cL, 13, .inr (.inl g_swellings_low))), (a_swellings_high, .inl (cL, 13, .inr (.inl g_swellings_high)))]) (wo := [(a_this, .inr (7, [.ref a_slots, .ref a_script, .ref a_history, .ref a_sums, .ref a_addend, .ref a_grids, .ref a_pairings, .ref a_swellings, .ref a_smallestSets])), (a_slots, .inl (cL, 4, .inr (.inl g_slots))), (a_swellings, .inr (5, [.ref a_swellings_numbers, .ref a_swellings_low, .ref a_swellings_high, .long g_swellings_whole, .long g_swellings_added, .int g_swellings_bestPart, .int g_swellings_bestSums, .int g_swellings_bestSize])), (a_swellings_numbers, .inl (cI, 12, .inl g_swellings_numbers)), (a_swellings_low, .inl (cL, 13, .inr (.inl g_swellings_low))), (a_swellings_high, .inl (cL, 13, .inr (.inl g_swellings_high)))]) ⟨hx, hb, hml, hown, hts⟩ hN hP hD hS hA (cX7_isSlot_ct l D cI cL cC cZ q1 u1 hu1) z1 [] [0, 1, 2, 3, 4, 5] [0, 1, 2, 3, 4, 5] rfl (by decide) rfl (by decide) (by decide) rfl (by decide) rfl hl.1 rfl (Nat.le_of_ble_eq_true rfl) dX7_swell_1 ⟨Nat.zero_le _, Nat.zero_le _⟩ (fun H locs hP hD hS => ?_)
  refine lv_if_eq (tgt := 23) hx hb dX7_swell_4 (by decide) (fun c2 => ?_) (fun c2 => ?_)
  · have hf := br_pos c2 hf
    refine lv_iconst (v := -1) hx hb dX7_swell_23 (by decide) ?_
    have hE : ((-1 : Int32), g_swellings_whole, g_swellings_added, g_swellings_bestPart, g_swellings_bestSums, g_swellings_bestSize, g_swellings_numbers, g_swellings_low, g_swellings_high) = (r0, v_swellings_whole, v_swellings_added, v_swellings_bestPart, v_swellings_bestSums, v_swellings_bestSize, v_swellings_numbers, v_swellings_low, v_swellings_high) := Option.some.inj hf
    simp only [Prod.mk.injEq] at hE
    obtain ⟨rfl, rfl, rfl, rfl, rfl, rfl, rfl, rfl, rfl⟩ := hE
    exact rtI hx hb hr hlk hP hD hS dX7_swell_24
  · have hf := br_neg c2 hf
    refine lv_iload_n hx hb dX7_swell_7 rfl (lv_at hl 2 rfl) ?_
    obtain ⟨u3, hu3, hf⟩ := bd_some hf
    refine caSI (rest := []) (As := [.int q2]) (wr := [(a_this, .inr (7, [.ref a_slots, .ref a_script, .ref a_history, .ref a_sums, .ref a_addend, .ref a_grids, .ref a_pairings, .ref a_swellings, .ref a_smallestSets])), (a_slots, .inl (cL, 4, .inr (.inl g_slots))), (a_swellings, .inr (5, [.ref a_swellings_numbers, .ref a_swellings_low, .ref a_swellings_high, .long g_swellings_whole, .long g_swellings_added, .int g_swellings_bestPart, .int g_swellings_bestSums, .int g_swellings_bestSize])), (a_swellings_numbers, .inl (cI, 12, .inl g_swellings_numbers)), (a_swellings_low, .inl (cL, 13, .inr (.inl g_swellings_low))), (a_swellings_high, .inl (cL, 13, .inr (.inl g_swellings_high)))]) (wo := [(a_this, .inr (7, [.ref a_slots, .ref a_script, .ref a_history, .ref a_sums, .ref a_addend, .ref a_grids, .ref a_pairings, .ref a_swellings, .ref a_smallestSets])), (a_slots, .inl (cL, 4, .inr (.inl g_slots))), (a_swellings, .inr (5, [.ref a_swellings_numbers, .ref a_swellings_low, .ref a_swellings_high, .long g_swellings_whole, .long g_swellings_added, .int g_swellings_bestPart, .int g_swellings_bestSums, .int g_swellings_bestSize])), (a_swellings_numbers, .inl (cI, 12, .inl g_swellings_numbers)), (a_swellings_low, .inl (cL, 13, .inr (.inl g_swellings_low))), (a_swellings_high, .inl (cL, 13, .inr (.inl g_swellings_high)))]) ⟨hx, hb, hml, hown, hts⟩ hN hP hD hS hA (cX7_isSlot_ct l D cI cL cC cZ q2 u3 hu3) z1 [] [0, 1, 2, 3, 4, 5] [0, 1, 2, 3, 4, 5] rfl (by decide) rfl (by decide) (by decide) rfl (by decide) rfl hl.1 rfl (Nat.le_of_ble_eq_true rfl) dX7_swell_8 ⟨Nat.zero_le _, Nat.zero_le _⟩ (fun H locs hP hD hS => ?_)
    refine lv_if_eq (tgt := 23) hx hb dX7_swell_11 (by decide) (fun c4 => ?_) (fun c4 => ?_)
    · have hf := br_pos c4 hf
      refine lv_iconst (v := -1) hx hb dX7_swell_23 (by decide) ?_
      have hE : ((-1 : Int32), g_swellings_whole, g_swellings_added, g_swellings_bestPart, g_swellings_bestSums, g_swellings_bestSize, g_swellings_numbers, g_swellings_low, g_swellings_high) = (r0, v_swellings_whole, v_swellings_added, v_swellings_bestPart, v_swellings_bestSums, v_swellings_bestSize, v_swellings_numbers, v_swellings_low, v_swellings_high) := Option.some.inj hf
      simp only [Prod.mk.injEq] at hE
      obtain ⟨rfl, rfl, rfl, rfl, rfl, rfl, rfl, rfl, rfl⟩ := hE
      exact rtI hx hb hr hlk hP hD hS dX7_swell_24
    · have hf := br_neg c4 hf
      refine lv_iload_n hx hb dX7_swell_14 rfl (lv_at hl 3 rfl) ?_
      refine lv_if_lt (tgt := 23) hx hb dX7_swell_15 (by decide) (fun c5 => ?_) (fun c5 => ?_)
      · have hf := br_pos c5 hf
        refine lv_iconst (v := -1) hx hb dX7_swell_23 (by decide) ?_
        have hE : ((-1 : Int32), g_swellings_whole, g_swellings_added, g_swellings_bestPart, g_swellings_bestSums, g_swellings_bestSize, g_swellings_numbers, g_swellings_low, g_swellings_high) = (r0, v_swellings_whole, v_swellings_added, v_swellings_bestPart, v_swellings_bestSums, v_swellings_bestSize, v_swellings_numbers, v_swellings_low, v_swellings_high) := Option.some.inj hf
        simp only [Prod.mk.injEq] at hE
        obtain ⟨rfl, rfl, rfl, rfl, rfl, rfl, rfl, rfl, rfl⟩ := hE
        exact rtI hx hb hr hlk hP hD hS dX7_swell_24
      · have hf := br_neg c5 hf
        refine lv_iload_n hx hb dX7_swell_18 rfl (lv_at hl 3 rfl) ?_
        refine lv_iconst (v := 2) hx hb dX7_swell_19 (by decide) ?_
        refine lv_icmp_le (tgt := 25) hx hb dX7_swell_20 (by decide) (fun c6 => ?_) (fun c6 => ?_)
        · have hf := br_pos c6 hf
          refine lv_aload_n hx hb dX7_swell_25 rfl (lv_at hl 0 rfl) ?_
          refine lv_iload_n hx hb dX7_swell_26 rfl (lv_at hl 1 rfl) ?_
          refine lv_iload_n hx hb dX7_swell_27 rfl (lv_at hl 2 rfl) ?_
          obtain ⟨u7, hu7, hf⟩ := bd_some hf
          refine caVI (rest := []) (As := [.int q1, .int q2]) (wr := [(a_swellings, .inr (5, [.ref a_swellings_numbers, .ref a_swellings_low, .ref a_swellings_high, .long g_swellings_whole, .long g_swellings_added, .int g_swellings_bestPart, .int g_swellings_bestSums, .int g_swellings_bestSize])), (a_swellings_numbers, .inl (cI, 12, .inl g_swellings_numbers)), (a_swellings_low, .inl (cL, 13, .inr (.inl g_swellings_low))), (a_swellings_high, .inl (cL, 13, .inr (.inl g_swellings_high)))]) (wo := [(a_this, .inr (7, [.ref a_slots, .ref a_script, .ref a_history, .ref a_sums, .ref a_addend, .ref a_grids, .ref a_pairings, .ref a_swellings, .ref a_smallestSets])), (a_slots, .inl (cL, 4, .inr (.inl g_slots))), (a_swellings, .inr (5, [.ref a_swellings_numbers, .ref a_swellings_low, .ref a_swellings_high, .long g_swellings_whole, .long g_swellings_added, .int g_swellings_bestPart, .int g_swellings_bestSums, .int g_swellings_bestSize])), (a_swellings_numbers, .inl (cI, 12, .inl g_swellings_numbers)), (a_swellings_low, .inl (cL, 13, .inr (.inl g_swellings_low))), (a_swellings_high, .inl (cL, 13, .inr (.inl g_swellings_high)))]) ⟨hx, hb, hml, hown, hts⟩ hN hP hD hS hA (cX7_canSwell_ct l D cI cL cC cZ a_this a_slots a_script a_history a_sums a_addend a_grids a_pairings a_swellings a_smallestSets g_slots q1 q2 u7 hu7) z2 0 7 rfl rfl [0, 1] [2, 3, 4, 5] [4, 5, 0, 1, 2, 3] rfl (by decide) rfl (by decide) (by decide) rfl (by decide) rfl hl.1 rfl (Nat.le_of_ble_eq_true rfl) dX7_swell_28 ⟨Nat.zero_le _, Nat.zero_le _⟩ (fun H locs hP hD hS => ?_)
          refine lv_if_ne (tgt := 37) hx hb dX7_swell_31 (by decide) (fun c8 => ?_) (fun c8 => ?_)
          · have hf := br_neg c8 hf
            refine lv_aload_n hx hb dX7_swell_37 rfl (lv_at hl 0 rfl) ?_
            refine va_get (D := D) (ci := 7) (v := .ref a_swellings) (C := RX7) (T := TX7) (N := 9) hx hb hts z3 hown hN.1 hP 0 rfl rfl 7 (by decide) z4 (fun _ h9 => h9) rfl dX7_swell_38 ?_
            refine lv_aload_n hx hb dX7_swell_41 rfl (lv_at hl 0 rfl) ?_
            refine va_get (D := D) (ci := 7) (v := .ref a_slots) (C := RX7) (T := TX7) (N := 9) hx hb hts z3 hown hN.1 hP 0 rfl rfl 0 (by decide) z5 (fun _ h9 => h9) rfl dX7_swell_42 ?_
            refine lv_iload_n hx hb dX7_swell_45 rfl (lv_at hl 1 rfl) ?_
            obtain ⟨c9, hf⟩ := gd_some hf
            refine va_lald hx hb hN.1 hP 1 1 rfl rfl (ix_in c9) dX7_swell_46 ?_
            refine lv_aload_n hx hb dX7_swell_47 rfl (lv_at hl 0 rfl) ?_
            refine va_get (D := D) (ci := 7) (v := .ref a_slots) (C := RX7) (T := TX7) (N := 9) hx hb hts z3 hown hN.1 hP 0 rfl rfl 0 (by decide) z5 (fun _ h9 => h9) rfl dX7_swell_48 ?_
            refine lv_iload_n hx hb dX7_swell_51 rfl (lv_at hl 2 rfl) ?_
            obtain ⟨c10, hf⟩ := gd_some hf
            refine va_lald hx hb hN.1 hP 1 1 rfl rfl (ix_in c10) dX7_swell_52 ?_
            obtain ⟨u11, hu11, hf⟩ := bd_some hf
            refine caVV (rest := []) (As := [.long (g_slots q1.toNatClampNeg), .long (g_slots q2.toNatClampNeg)]) (wr := [(a_this, .inr (7, [.ref a_slots, .ref a_script, .ref a_history, .ref a_sums, .ref a_addend, .ref a_grids, .ref a_pairings, .ref a_swellings, .ref a_smallestSets])), (a_slots, .inl (cL, 4, .inr (.inl g_slots)))]) (wo := [(a_this, .inr (7, [.ref a_slots, .ref a_script, .ref a_history, .ref a_sums, .ref a_addend, .ref a_grids, .ref a_pairings, .ref a_swellings, .ref a_smallestSets])), (a_slots, .inl (cL, 4, .inr (.inl g_slots))), (a_swellings, .inr (5, [.ref a_swellings_numbers, .ref a_swellings_low, .ref a_swellings_high, .long u11.1, .long u11.2.1, .int u11.2.2.1, .int u11.2.2.2.1, .int u11.2.2.2.2.1])), (a_swellings_numbers, .inl (cI, 12, .inl u11.2.2.2.2.2.1)), (a_swellings_low, .inl (cL, 13, .inr (.inl u11.2.2.2.2.2.2.1))), (a_swellings_high, .inl (cL, 13, .inr (.inl u11.2.2.2.2.2.2.2)))]) ⟨hx, hb, hml, hown, hts⟩ hN hP hD hS hA (cX5_seek_ct l D cI cL cC cZ a_swellings a_swellings_numbers a_swellings_low a_swellings_high g_swellings_whole g_swellings_added g_swellings_bestPart g_swellings_bestSums g_swellings_bestSize g_swellings_numbers g_swellings_low g_swellings_high (g_slots q1.toNatClampNeg) (g_slots q2.toNatClampNeg) u11.1 u11.2.1 u11.2.2.1 u11.2.2.2.1 u11.2.2.2.2.1 u11.2.2.2.2.2.1 u11.2.2.2.2.2.2.1 u11.2.2.2.2.2.2.2 hu11) z6 2 5 rfl rfl [2, 3, 4, 5] [0, 1] [0, 1, 2, 3, 4, 5] rfl (by decide) rfl (by decide) (by decide) rfl (by decide) rfl hl.1 rfl (Nat.le_of_ble_eq_true rfl) dX7_swell_53 ⟨Nat.zero_le _, Nat.zero_le _⟩ (fun H locs hP hD hS => ?_)
            refine lv_aload_n hx hb dX7_swell_56 rfl (lv_at hl 0 rfl) ?_
            refine va_get (D := D) (ci := 7) (v := .ref a_swellings) (C := RX7) (T := TX7) (N := 9) hx hb hts z3 hown hN.1 hP 0 rfl rfl 7 (by decide) z4 (fun _ h9 => h9) rfl dX7_swell_57 ?_
            refine lv_iload_n hx hb dX7_swell_60 rfl (lv_at hl 3 rfl) ?_
            obtain ⟨u12, hu12, hf⟩ := bd_some hf
            refine caVI (rest := []) (As := [.int q3]) (wr := [(a_this, .inr (7, [.ref a_slots, .ref a_script, .ref a_history, .ref a_sums, .ref a_addend, .ref a_grids, .ref a_pairings, .ref a_swellings, .ref a_smallestSets])), (a_slots, .inl (cL, 4, .inr (.inl g_slots))), (a_swellings_numbers, .inl (cI, 12, .inl u11.2.2.2.2.2.1)), (a_swellings_low, .inl (cL, 13, .inr (.inl u11.2.2.2.2.2.2.1))), (a_swellings_high, .inl (cL, 13, .inr (.inl u11.2.2.2.2.2.2.2)))]) (wo := [(a_this, .inr (7, [.ref a_slots, .ref a_script, .ref a_history, .ref a_sums, .ref a_addend, .ref a_grids, .ref a_pairings, .ref a_swellings, .ref a_smallestSets])), (a_slots, .inl (cL, 4, .inr (.inl g_slots))), (a_swellings, .inr (5, [.ref a_swellings_numbers, .ref a_swellings_low, .ref a_swellings_high, .long u11.1, .long u11.2.1, .int u11.2.2.1, .int u11.2.2.2.1, .int u11.2.2.2.2.1])), (a_swellings_numbers, .inl (cI, 12, .inl u11.2.2.2.2.2.1)), (a_swellings_low, .inl (cL, 13, .inr (.inl u11.2.2.2.2.2.2.1))), (a_swellings_high, .inl (cL, 13, .inr (.inl u11.2.2.2.2.2.2.2)))]) ⟨hx, hb, hml, hown, hts⟩ hN hP hD hS hA (cX5_answer_ct l D cI cL cC cZ a_swellings a_swellings_numbers a_swellings_low a_swellings_high u11.1 u11.2.1 u11.2.2.1 u11.2.2.2.1 u11.2.2.2.2.1 q3 u12 hu12) z7 2 5 rfl rfl [2] [0, 1, 3, 4, 5] [0, 1, 5, 2, 3, 4] rfl (by decide) rfl (by decide) (by decide) rfl (by decide) rfl hl.1 rfl (Nat.le_of_ble_eq_true rfl) dX7_swell_61 ⟨Nat.zero_le _, Nat.zero_le _⟩ (fun H locs hP hD hS => ?_)
            have hE : (u12, u11.1, u11.2.1, u11.2.2.1, u11.2.2.2.1, u11.2.2.2.2.1, u11.2.2.2.2.2.1, u11.2.2.2.2.2.2.1, u11.2.2.2.2.2.2.2) = (r0, v_swellings_whole, v_swellings_added, v_swellings_bestPart, v_swellings_bestSums, v_swellings_bestSize, v_swellings_numbers, v_swellings_low, v_swellings_high) := Option.some.inj hf
            simp only [Prod.mk.injEq] at hE
            obtain ⟨rfl, rfl, rfl, rfl, rfl, rfl, rfl, rfl, rfl⟩ := hE
            exact rtI hx hb hr hlk hP hD hS dX7_swell_64
          · have hf := br_pos c8 hf
            refine lv_bipush (v := -2) hx hb dX7_swell_34 (by decide) ?_
            have hE : ((-2 : Int32), g_swellings_whole, g_swellings_added, g_swellings_bestPart, g_swellings_bestSums, g_swellings_bestSize, g_swellings_numbers, g_swellings_low, g_swellings_high) = (r0, v_swellings_whole, v_swellings_added, v_swellings_bestPart, v_swellings_bestSums, v_swellings_bestSize, v_swellings_numbers, v_swellings_low, v_swellings_high) := Option.some.inj hf
            simp only [Prod.mk.injEq] at hE
            obtain ⟨rfl, rfl, rfl, rfl, rfl, rfl, rfl, rfl, rfl⟩ := hE
            exact rtI hx hb hr hlk hP hD hS dX7_swell_36
        · have hf := br_neg c6 hf
          refine lv_iconst (v := -1) hx hb dX7_swell_23 (by decide) ?_
          have hE : ((-1 : Int32), g_swellings_whole, g_swellings_added, g_swellings_bestPart, g_swellings_bestSums, g_swellings_bestSize, g_swellings_numbers, g_swellings_low, g_swellings_high) = (r0, v_swellings_whole, v_swellings_added, v_swellings_bestPart, v_swellings_bestSums, v_swellings_bestSize, v_swellings_numbers, v_swellings_low, v_swellings_high) := Option.some.inj hf
          simp only [Prod.mk.injEq] at hE
          obtain ⟨rfl, rfl, rfl, rfl, rfl, rfl, rfl, rfl, rfl⟩ := hE
          exact rtI hx hb hr hlk hP hD hS dX7_swell_24
abbrev rmX7_fewestSums : Room := { frames := 1, cells := 0, slots := 0, locals := 21 }
noncomputable def fX7_fewestSums (q0 : Int64) (q2 : Int64) : Option (Int32) := bd (fJ13_bitCount_95d88 q0) (fun u1 => bd (fJ13_bitCount_95d88 q2) (fun u2 => some ((u1 + u2) - (1 : Int32))))
set_option maxHeartbeats 4000000 in
set_option maxRecDepth 100000 in
theorem cX7_fewestSums_ct (l : Launch) (D : va_G) (cI cL cC cZ : ClassId) (q0 : Int64) (q2 : Int64) (r0 : Int32) (hf : fX7_fewestSums q0 q2 = some r0) : CtI l yX7_fewestSums wsX7_fewestSums rmX7_fewestSums D (tyz cI cL cC cZ) [.long q0, .long q2] [] [] r0 := by
  refine CtI.make (cc := cX7_fewestSums) (maxL := 4) (ty := .int) (by decide) rfl (Nat.le_of_ble_eq_true rfl) ?_
  intro p e s m below meth c A ls C0 hN hA hP hD hl
  obtain ⟨hx, hb, hr, hml, hown, hts, hlk⟩ := id C0
  have hown : s.vm.findClass RX7 = some m.cls := hown
  have hS : va_S A s.heap s.heap [] := va_S.rf
  have hP : va_P D vwCl [] s.heap := hP
  have hD : va_D A [] := hD
  have hl : lv_has ls 4 [(0, .long q0), (2, .long q2)] := hl
  have z1 := va_cwS (R := rmX7_fewestSums) (rm := rmJ13_bitCount_95d88) (mc := 0) (ms := 0) 1 hts gX7_fewestSums_J13_bitCount_95d88 rfl rfl rfl (by decide +kernel) ⟨Nat.le_of_ble_eq_true rfl, Nat.le_of_ble_eq_true rfl⟩
  unfold fX7_fewestSums at hf
  obtain ⟨H, eH⟩ : ∃ z, z = s.heap := ⟨_, rfl⟩
  obtain ⟨locs, eL⟩ : ∃ z : List Loc, z = [] := ⟨_, rfl⟩
  have hP : va_P D vwCl [] H := by rw [eH]; exact hP
  have hS : va_S A s.heap H locs := by rw [eH, eL]; exact hS
  suffices hG : W p l e rmX7_fewestSums s m ([.long q0, .long q2] : List Value).toArray below meth c H locs 0 0 (MQ below (cQi D r0 A []) ([.long q0, .long q2] : List Value).toArray s 0 0 A) (F0 m 0 ls []) by rw [eH, eL] at hG; exact hG
  refine lv_lload_n hx hb dX7_fewestSums_0 rfl (lv_at hl 0 rfl) ?_
  obtain ⟨u1, hu1, hf⟩ := bd_some hf
  refine caSI (rest := []) (As := [.long q0]) (wr := []) (wo := []) ⟨hx, hb, hml, hown, hts⟩ hN hP hD hS hA (cJ13_bitCount_95d88_ct l D cI cL cC cZ q0 u1 hu1) z1 [] [] [] rfl (by decide) rfl (by decide) (by decide) rfl (by decide) rfl hl.1 rfl (Nat.le_of_ble_eq_true rfl) dX7_fewestSums_1 ⟨Nat.zero_le _, Nat.zero_le _⟩ (fun H locs hP hD hS => ?_)
  refine lv_lload_n hx hb dX7_fewestSums_4 rfl (lv_at hl 1 rfl) ?_
  obtain ⟨u2, hu2, hf⟩ := bd_some hf
  refine caSI (rest := [.int u1]) (As := [.long q2]) (wr := []) (wo := []) ⟨hx, hb, hml, hown, hts⟩ hN hP hD hS hA (cJ13_bitCount_95d88_ct l D cI cL cC cZ q2 u2 hu2) z1 [] [] [] rfl (by decide) rfl (by decide) (by decide) rfl (by decide) rfl hl.1 rfl (Nat.le_of_ble_eq_true rfl) dX7_fewestSums_5 ⟨Nat.zero_le _, Nat.zero_le _⟩ (fun H locs hP hD hS => ?_)
  refine lv_iadd hx hb dX7_fewestSums_8 ?_
  refine lv_iconst (v := 1) hx hb dX7_fewestSums_9 (by decide) ?_
  refine lv_isub hx hb dX7_fewestSums_10 ?_
  have hE : (u1 + u2) - (1 : Int32) = r0 := Option.some.inj hf
  subst hE
  exact rtI hx hb hr hlk hP hD hS dX7_fewestSums_11
abbrev rmX7_floor : Room := { frames := 2, cells := 0, slots := 0, locals := 44 }
noncomputable def bX7_floor_38 (g_slots : Nat → Int64) : Option (Int32) := some ((-2 : Int32))
noncomputable def fX7_floor (q1 : Int32) (q2 : Int32) (g_slots : Nat → Int64) : Option (Int32) := bd (fX7_isSlot q1) (fun u1 => br (u1 = 0) (some ((-1 : Int32))) (bd (fX7_isSlot q2) (fun u3 => br (u3 = 0) (some ((-1 : Int32))) (gd (¬ q1 < 0 ∧ q1.toNatClampNeg < 4) (br ((lg_cmp (g_slots q1.toNatClampNeg) (0 : Int64)) = 0) (bX7_floor_38 g_slots) (gd (¬ q2 < 0 ∧ q2.toNatClampNeg < 4) (br ((lg_cmp (g_slots q2.toNatClampNeg) (0 : Int64)) = 0) (bX7_floor_38 g_slots) (gd (¬ q1 < 0 ∧ q1.toNatClampNeg < 4) (gd (¬ q2 < 0 ∧ q2.toNatClampNeg < 4) (bd (fX7_fewestSums (g_slots q1.toNatClampNeg) (g_slots q2.toNatClampNeg)) (fun u11 => some (u11))))))))))))
set_option maxHeartbeats 4000000 in
set_option maxRecDepth 100000 in
theorem cX7_floor_ct (l : Launch) (D : va_G) (cI cL cC cZ : ClassId) (a_this a_slots a_script a_history a_sums a_addend a_grids a_pairings a_swellings a_smallestSets : Nat) (g_slots : Nat → Int64) (q1 : Int32) (q2 : Int32) (r0 : Int32) (hf : fX7_floor q1 q2 g_slots = some r0) : CtI l yX7_floor wsX7_floor rmX7_floor D (tyz cI cL cC cZ) [.ref a_this, .int q1, .int q2] [(a_this, .inr (7, [.ref a_slots, .ref a_script, .ref a_history, .ref a_sums, .ref a_addend, .ref a_grids, .ref a_pairings, .ref a_swellings, .ref a_smallestSets])), (a_slots, .inl (cL, 4, .inr (.inl g_slots)))] [(a_this, .inr (7, [.ref a_slots, .ref a_script, .ref a_history, .ref a_sums, .ref a_addend, .ref a_grids, .ref a_pairings, .ref a_swellings, .ref a_smallestSets])), (a_slots, .inl (cL, 4, .inr (.inl g_slots)))] r0 := by
  refine CtI.make (cc := cX7_floor) (maxL := 3) (ty := .int) (by decide) rfl (Nat.le_of_ble_eq_true rfl) ?_
  intro p e s m below meth c A ls C0 hN hA hP hD hl
  obtain ⟨hx, hb, hr, hml, hown, hts, hlk⟩ := id C0
  have hown : s.vm.findClass RX7 = some m.cls := hown
  have hS : va_S A s.heap s.heap [] := va_S.rf
  have hP : va_P D vwCl [(a_this, .inr (7, [.ref a_slots, .ref a_script, .ref a_history, .ref a_sums, .ref a_addend, .ref a_grids, .ref a_pairings, .ref a_swellings, .ref a_smallestSets])), (a_slots, .inl (cL, 4, .inr (.inl g_slots)))] s.heap := hP
  have hD : va_D A [(a_this, .inr (7, [.ref a_slots, .ref a_script, .ref a_history, .ref a_sums, .ref a_addend, .ref a_grids, .ref a_pairings, .ref a_swellings, .ref a_smallestSets])), (a_slots, .inl (cL, 4, .inr (.inl g_slots)))] := hD
  have hl : lv_has ls 3 [(0, .ref a_this), (1, .int q1), (2, .int q2)] := hl
  have z1 := va_cwS (R := rmX7_floor) (rm := rmX7_isSlot) (mc := 0) (ms := 0) 1 hts gX7_floor_X7_isSlot rfl rfl rfl (by decide +kernel) ⟨Nat.le_of_ble_eq_true rfl, Nat.le_of_ble_eq_true rfl⟩
  have z2 : ∀ w ∈ u_ws RX7 TX7 9, w ∈ wsX7_floor := by decide +kernel
  have z3 := hts (.fieldLink RX7 9 "LittleSums" "slots" "[J") (by decide +kernel)
  have z4 := va_cwS (R := rmX7_floor) (rm := rmX7_fewestSums) (mc := 0) (ms := 0) 2 hts gX7_floor_X7_fewestSums rfl rfl rfl (by decide +kernel) ⟨Nat.le_of_ble_eq_true rfl, Nat.le_of_ble_eq_true rfl⟩
  have w38 : ∀ (g_slots : Nat → Int64) (H : Heap) (locs : List Loc) (ls : Array Slot), bX7_floor_38 g_slots = some r0 → va_P D vwCl [(a_this, .inr (7, [.ref a_slots, .ref a_script, .ref a_history, .ref a_sums, .ref a_addend, .ref a_grids, .ref a_pairings, .ref a_swellings, .ref a_smallestSets])), (a_slots, .inl (cL, 4, .inr (.inl g_slots)))] H → va_D A [(a_this, .inr (7, [.ref a_slots, .ref a_script, .ref a_history, .ref a_sums, .ref a_addend, .ref a_grids, .ref a_pairings, .ref a_swellings, .ref a_smallestSets])), (a_slots, .inl (cL, 4, .inr (.inl g_slots)))] → va_S A s.heap H locs → lv_has ls 3 [] → W p l e rmX7_floor s m ([.ref a_this, .int q1, .int q2] : List Value).toArray below meth c H locs 0 0 (MQ below (cQi D r0 A [(a_this, .inr (7, [.ref a_slots, .ref a_script, .ref a_history, .ref a_sums, .ref a_addend, .ref a_grids, .ref a_pairings, .ref a_swellings, .ref a_smallestSets])), (a_slots, .inl (cL, 4, .inr (.inl g_slots)))]) ([.ref a_this, .int q1, .int q2] : List Value).toArray s 0 0 A) (F0 m 38 ls []) := by
    intro g_slots H locs ls hf hP hD hS hl
    unfold bX7_floor_38 at hf
    refine lv_bipush (v := -2) hx hb dX7_floor_38 (by decide) ?_
    refine lv_goto (tgt := 58) hx hb dX7_floor_40 (by decide) ?_
    have hE : (-2 : Int32) = r0 := Option.some.inj hf
    subst hE
    exact rtI hx hb hr hlk hP hD hS dX7_floor_58
  unfold fX7_floor at hf
  obtain ⟨H, eH⟩ : ∃ z, z = s.heap := ⟨_, rfl⟩
  obtain ⟨locs, eL⟩ : ∃ z : List Loc, z = [] := ⟨_, rfl⟩
  have hP : va_P D vwCl [(a_this, .inr (7, [.ref a_slots, .ref a_script, .ref a_history, .ref a_sums, .ref a_addend, .ref a_grids, .ref a_pairings, .ref a_swellings, .ref a_smallestSets])), (a_slots, .inl (cL, 4, .inr (.inl g_slots)))] H := by rw [eH]; exact hP
  have hS : va_S A s.heap H locs := by rw [eH, eL]; exact hS
  suffices hG : W p l e rmX7_floor s m ([.ref a_this, .int q1, .int q2] : List Value).toArray below meth c H locs 0 0 (MQ below (cQi D r0 A [(a_this, .inr (7, [.ref a_slots, .ref a_script, .ref a_history, .ref a_sums, .ref a_addend, .ref a_grids, .ref a_pairings, .ref a_swellings, .ref a_smallestSets])), (a_slots, .inl (cL, 4, .inr (.inl g_slots)))]) ([.ref a_this, .int q1, .int q2] : List Value).toArray s 0 0 A) (F0 m 0 ls []) by rw [eH, eL] at hG; exact hG
  refine lv_iload_n hx hb dX7_floor_0 rfl (lv_at hl 1 rfl) ?_
  obtain ⟨u1, hu1, hf⟩ := bd_some hf
  refine caSI (rest := []) (As := [.int q1]) (wr := [(a_this, .inr (7, [.ref a_slots, .ref a_script, .ref a_history, .ref a_sums, .ref a_addend, .ref a_grids, .ref a_pairings, .ref a_swellings, .ref a_smallestSets])), (a_slots, .inl (cL, 4, .inr (.inl g_slots)))]) (wo := [(a_this, .inr (7, [.ref a_slots, .ref a_script, .ref a_history, .ref a_sums, .ref a_addend, .ref a_grids, .ref a_pairings, .ref a_swellings, .ref a_smallestSets])), (a_slots, .inl (cL, 4, .inr (.inl g_slots)))]) ⟨hx, hb, hml, hown, hts⟩ hN hP hD hS hA (cX7_isSlot_ct l D cI cL cC cZ q1 u1 hu1) z1 [] [0, 1] [0, 1] rfl (by decide) rfl (by decide) (by decide) rfl (by decide) rfl hl.1 rfl (Nat.le_of_ble_eq_true rfl) dX7_floor_1 ⟨Nat.zero_le _, Nat.zero_le _⟩ (fun H locs hP hD hS => ?_)
  refine lv_if_eq (tgt := 14) hx hb dX7_floor_4 (by decide) (fun c2 => ?_) (fun c2 => ?_)
  · have hf := br_pos c2 hf
    refine lv_iconst (v := -1) hx hb dX7_floor_14 (by decide) ?_
    have hE : (-1 : Int32) = r0 := Option.some.inj hf
    subst hE
    exact rtI hx hb hr hlk hP hD hS dX7_floor_15
  · have hf := br_neg c2 hf
    refine lv_iload_n hx hb dX7_floor_7 rfl (lv_at hl 2 rfl) ?_
    obtain ⟨u3, hu3, hf⟩ := bd_some hf
    refine caSI (rest := []) (As := [.int q2]) (wr := [(a_this, .inr (7, [.ref a_slots, .ref a_script, .ref a_history, .ref a_sums, .ref a_addend, .ref a_grids, .ref a_pairings, .ref a_swellings, .ref a_smallestSets])), (a_slots, .inl (cL, 4, .inr (.inl g_slots)))]) (wo := [(a_this, .inr (7, [.ref a_slots, .ref a_script, .ref a_history, .ref a_sums, .ref a_addend, .ref a_grids, .ref a_pairings, .ref a_swellings, .ref a_smallestSets])), (a_slots, .inl (cL, 4, .inr (.inl g_slots)))]) ⟨hx, hb, hml, hown, hts⟩ hN hP hD hS hA (cX7_isSlot_ct l D cI cL cC cZ q2 u3 hu3) z1 [] [0, 1] [0, 1] rfl (by decide) rfl (by decide) (by decide) rfl (by decide) rfl hl.1 rfl (Nat.le_of_ble_eq_true rfl) dX7_floor_8 ⟨Nat.zero_le _, Nat.zero_le _⟩ (fun H locs hP hD hS => ?_)
    refine lv_if_ne (tgt := 16) hx hb dX7_floor_11 (by decide) (fun c4 => ?_) (fun c4 => ?_)
    · have hf := br_neg c4 hf
      refine lv_aload_n hx hb dX7_floor_16 rfl (lv_at hl 0 rfl) ?_
      refine va_get (D := D) (ci := 7) (v := .ref a_slots) (C := RX7) (T := TX7) (N := 9) hx hb hts z2 hown hN.1 hP 0 rfl rfl 0 (by decide) z3 (fun _ h9 => h9) rfl dX7_floor_17 ?_
      refine lv_iload_n hx hb dX7_floor_20 rfl (lv_at hl 1 rfl) ?_
      obtain ⟨c5, hf⟩ := gd_some hf
      refine va_lald hx hb hN.1 hP 1 1 rfl rfl (ix_in c5) dX7_floor_21 ?_
      refine lv_lconst (v := 0) hx hb dX7_floor_22 (by decide) ?_
      refine W.lcmp hx hb dX7_floor_23 ?_
      refine lv_if_eq (tgt := 38) hx hb dX7_floor_24 (by decide) (fun c6 => ?_) (fun c6 => ?_)
      · have hf := br_pos c6 hf
        exact w38 g_slots H locs ls hf hP hD hS (lv_sub hl [] rfl)
      · have hf := br_neg c6 hf
        refine lv_aload_n hx hb dX7_floor_27 rfl (lv_at hl 0 rfl) ?_
        refine va_get (D := D) (ci := 7) (v := .ref a_slots) (C := RX7) (T := TX7) (N := 9) hx hb hts z2 hown hN.1 hP 0 rfl rfl 0 (by decide) z3 (fun _ h9 => h9) rfl dX7_floor_28 ?_
        refine lv_iload_n hx hb dX7_floor_31 rfl (lv_at hl 2 rfl) ?_
        obtain ⟨c7, hf⟩ := gd_some hf
        refine va_lald hx hb hN.1 hP 1 1 rfl rfl (ix_in c7) dX7_floor_32 ?_
        refine lv_lconst (v := 0) hx hb dX7_floor_33 (by decide) ?_
        refine W.lcmp hx hb dX7_floor_34 ?_
        refine lv_if_ne (tgt := 43) hx hb dX7_floor_35 (by decide) (fun c8 => ?_) (fun c8 => ?_)
        · have hf := br_neg c8 hf
          refine lv_aload_n hx hb dX7_floor_43 rfl (lv_at hl 0 rfl) ?_
          refine va_get (D := D) (ci := 7) (v := .ref a_slots) (C := RX7) (T := TX7) (N := 9) hx hb hts z2 hown hN.1 hP 0 rfl rfl 0 (by decide) z3 (fun _ h9 => h9) rfl dX7_floor_44 ?_
          refine lv_iload_n hx hb dX7_floor_47 rfl (lv_at hl 1 rfl) ?_
          obtain ⟨c9, hf⟩ := gd_some hf
          refine va_lald hx hb hN.1 hP 1 1 rfl rfl (ix_in c9) dX7_floor_48 ?_
          refine lv_aload_n hx hb dX7_floor_49 rfl (lv_at hl 0 rfl) ?_
          refine va_get (D := D) (ci := 7) (v := .ref a_slots) (C := RX7) (T := TX7) (N := 9) hx hb hts z2 hown hN.1 hP 0 rfl rfl 0 (by decide) z3 (fun _ h9 => h9) rfl dX7_floor_50 ?_
          refine lv_iload_n hx hb dX7_floor_53 rfl (lv_at hl 2 rfl) ?_
          obtain ⟨c10, hf⟩ := gd_some hf
          refine va_lald hx hb hN.1 hP 1 1 rfl rfl (ix_in c10) dX7_floor_54 ?_
          obtain ⟨u11, hu11, hf⟩ := bd_some hf
          refine caSI (rest := []) (As := [.long (g_slots q1.toNatClampNeg), .long (g_slots q2.toNatClampNeg)]) (wr := [(a_this, .inr (7, [.ref a_slots, .ref a_script, .ref a_history, .ref a_sums, .ref a_addend, .ref a_grids, .ref a_pairings, .ref a_swellings, .ref a_smallestSets])), (a_slots, .inl (cL, 4, .inr (.inl g_slots)))]) (wo := [(a_this, .inr (7, [.ref a_slots, .ref a_script, .ref a_history, .ref a_sums, .ref a_addend, .ref a_grids, .ref a_pairings, .ref a_swellings, .ref a_smallestSets])), (a_slots, .inl (cL, 4, .inr (.inl g_slots)))]) ⟨hx, hb, hml, hown, hts⟩ hN hP hD hS hA (cX7_fewestSums_ct l D cI cL cC cZ (g_slots q1.toNatClampNeg) (g_slots q2.toNatClampNeg) u11 hu11) z4 [] [0, 1] [0, 1] rfl (by decide) rfl (by decide) (by decide) rfl (by decide) rfl hl.1 rfl (Nat.le_of_ble_eq_true rfl) dX7_floor_55 ⟨Nat.zero_le _, Nat.zero_le _⟩ (fun H locs hP hD hS => ?_)
          have hE : u11 = r0 := Option.some.inj hf
          subst hE
          exact rtI hx hb hr hlk hP hD hS dX7_floor_58
        · have hf := br_pos c8 hf
          exact w38 g_slots H locs ls hf hP hD hS (lv_sub hl [] rfl)
    · have hf := br_pos c4 hf
      refine lv_iconst (v := -1) hx hb dX7_floor_14 (by decide) ?_
      have hE : (-1 : Int32) = r0 := Option.some.inj hf
      subst hE
      exact rtI hx hb hr hlk hP hD hS dX7_floor_15
abbrev rmX7_tight : Room := { frames := 4, cells := 0, slots := 0, locals := 93 }
noncomputable def fX7_tight (q1 : Int32) (q2 : Int32) (g_slots : Nat → Int64) (g_sums_words : Nat → Int64) (g_addend_words : Nat → Int64) : Option (Int32 × (Nat → Int64) × (Nat → Int64)) := bd (fX7_isSlot q1) (fun u1 => br (u1 = 0) (some (((-1 : Int32), g_sums_words, g_addend_words))) (bd (fX7_isSlot q2) (fun u3 => br (u3 = 0) (some (((-1 : Int32), g_sums_words, g_addend_words))) (gd (¬ q1 < 0 ∧ q1.toNatClampNeg < 4) (br ((lg_cmp (g_slots q1.toNatClampNeg) (0 : Int64)) = 0) (some (((-2 : Int32), g_sums_words, g_addend_words))) (gd (¬ q2 < 0 ∧ q2.toNatClampNeg < 4) (br ((lg_cmp (g_slots q2.toNatClampNeg) (0 : Int64)) = 0) (some (((-2 : Int32), g_sums_words, g_addend_words))) (gd (¬ q1 < 0 ∧ q1.toNatClampNeg < 4) (bd (fJ13_bitCount_95d88 (g_slots q1.toNatClampNeg)) (fun u10 => br (u10 < (2 : Int32)) (some (((0 : Int32), g_sums_words, g_addend_words))) (gd (¬ q2 < 0 ∧ q2.toNatClampNeg < 4) (bd (fJ13_bitCount_95d88 (g_slots q2.toNatClampNeg)) (fun u13 => br ((2 : Int32) ≤ u13) (gd (¬ q1 < 0 ∧ q1.toNatClampNeg < 4) (gd (¬ q2 < 0 ∧ q2.toNatClampNeg < 4) (bd (fX7_findSums (g_slots q1.toNatClampNeg) (g_slots q2.toNatClampNeg) g_sums_words g_addend_words) (fun u17 => bd (fX6_size u17.1) (fun u18 => gd (¬ q1 < 0 ∧ q1.toNatClampNeg < 4) (gd (¬ q2 < 0 ∧ q2.toNatClampNeg < 4) (bd (fX7_fewestSums (g_slots q1.toNatClampNeg) (g_slots q2.toNatClampNeg)) (fun u21 => br (u18 = u21) (some (((1 : Int32), u17.1, u17.2))) (some (((0 : Int32), u17.1, u17.2))))))))))) (some (((0 : Int32), g_sums_words, g_addend_words))))))))))))))))
set_option maxHeartbeats 4000000 in
set_option maxRecDepth 100000 in
theorem cX7_tight_ct (l : Launch) (D : va_G) (cI cL cC cZ : ClassId) (a_this a_slots a_script a_history a_sums a_addend a_grids a_pairings a_swellings a_smallestSets a_sums_words a_addend_words : Nat) (g_slots : Nat → Int64) (g_sums_words : Nat → Int64) (g_addend_words : Nat → Int64) (q1 : Int32) (q2 : Int32) (r0 : Int32) (v_sums_words : Nat → Int64) (v_addend_words : Nat → Int64) (hf : fX7_tight q1 q2 g_slots g_sums_words g_addend_words = some ((r0, v_sums_words, v_addend_words))) : CtI l yX7_tight wsX7_tight rmX7_tight D (tyz cI cL cC cZ) [.ref a_this, .int q1, .int q2] [(a_this, .inr (7, [.ref a_slots, .ref a_script, .ref a_history, .ref a_sums, .ref a_addend, .ref a_grids, .ref a_pairings, .ref a_swellings, .ref a_smallestSets])), (a_slots, .inl (cL, 4, .inr (.inl g_slots))), (a_sums, .inr (6, [.ref a_sums_words])), (a_sums_words, .inl (cL, 4, .inr (.inl g_sums_words))), (a_addend, .inr (6, [.ref a_addend_words])), (a_addend_words, .inl (cL, 4, .inr (.inl g_addend_words)))] [(a_this, .inr (7, [.ref a_slots, .ref a_script, .ref a_history, .ref a_sums, .ref a_addend, .ref a_grids, .ref a_pairings, .ref a_swellings, .ref a_smallestSets])), (a_slots, .inl (cL, 4, .inr (.inl g_slots))), (a_sums, .inr (6, [.ref a_sums_words])), (a_sums_words, .inl (cL, 4, .inr (.inl v_sums_words))), (a_addend, .inr (6, [.ref a_addend_words])), (a_addend_words, .inl (cL, 4, .inr (.inl v_addend_words)))] r0 := by
  refine CtI.make (cc := cX7_tight) (maxL := 3) (ty := .int) (by decide) rfl (Nat.le_of_ble_eq_true rfl) ?_
  intro p e s m below meth c A ls C0 hN hA hP hD hl
  obtain ⟨hx, hb, hr, hml, hown, hts, hlk⟩ := id C0
  have hown : s.vm.findClass RX7 = some m.cls := hown
  have hS : va_S A s.heap s.heap [] := va_S.rf
  have hP : va_P D vwCl [(a_this, .inr (7, [.ref a_slots, .ref a_script, .ref a_history, .ref a_sums, .ref a_addend, .ref a_grids, .ref a_pairings, .ref a_swellings, .ref a_smallestSets])), (a_slots, .inl (cL, 4, .inr (.inl g_slots))), (a_sums, .inr (6, [.ref a_sums_words])), (a_sums_words, .inl (cL, 4, .inr (.inl g_sums_words))), (a_addend, .inr (6, [.ref a_addend_words])), (a_addend_words, .inl (cL, 4, .inr (.inl g_addend_words)))] s.heap := hP
  have hD : va_D A [(a_this, .inr (7, [.ref a_slots, .ref a_script, .ref a_history, .ref a_sums, .ref a_addend, .ref a_grids, .ref a_pairings, .ref a_swellings, .ref a_smallestSets])), (a_slots, .inl (cL, 4, .inr (.inl g_slots))), (a_sums, .inr (6, [.ref a_sums_words])), (a_sums_words, .inl (cL, 4, .inr (.inl g_sums_words))), (a_addend, .inr (6, [.ref a_addend_words])), (a_addend_words, .inl (cL, 4, .inr (.inl g_addend_words)))] := hD
  have hl : lv_has ls 3 [(0, .ref a_this), (1, .int q1), (2, .int q2)] := hl
  have z1 := va_cwS (R := rmX7_tight) (rm := rmX7_isSlot) (mc := 0) (ms := 0) 1 hts gX7_tight_X7_isSlot rfl rfl rfl (by decide +kernel) ⟨Nat.le_of_ble_eq_true rfl, Nat.le_of_ble_eq_true rfl⟩
  have z2 : ∀ w ∈ u_ws RX7 TX7 9, w ∈ wsX7_tight := by decide +kernel
  have z3 := hts (.fieldLink RX7 9 "LittleSums" "slots" "[J") (by decide +kernel)
  have z4 := va_cwS (R := rmX7_tight) (rm := rmJ13_bitCount_95d88) (mc := 0) (ms := 0) 1 hts gX7_tight_J13_bitCount_95d88 rfl rfl rfl (by decide +kernel) ⟨Nat.le_of_ble_eq_true rfl, Nat.le_of_ble_eq_true rfl⟩
  have z5 := cwV (R := rmX7_tight) (rm := rmX7_findSums) (mc := 0) (ms := 0) 2 hts gX7_tight_X7_findSums rfl rfl rfl (by decide +kernel) ⟨Nat.le_of_ble_eq_true rfl, Nat.le_of_ble_eq_true rfl⟩
  have z6 := hts (.fieldLink RX7 30 "LittleSums" "sums" "LLittleSums$Wide;") (by decide +kernel)
  have z7 := cwV (R := rmX7_tight) (rm := rmX6_size) (mc := 0) (ms := 0) 0 hts gX7_tight_X6_size rfl rfl rfl (by decide +kernel) ⟨Nat.le_of_ble_eq_true rfl, Nat.le_of_ble_eq_true rfl⟩
  have z8 := va_cwS (R := rmX7_tight) (rm := rmX7_fewestSums) (mc := 0) (ms := 0) 2 hts gX7_tight_X7_fewestSums rfl rfl rfl (by decide +kernel) ⟨Nat.le_of_ble_eq_true rfl, Nat.le_of_ble_eq_true rfl⟩
  unfold fX7_tight at hf
  obtain ⟨H, eH⟩ : ∃ z, z = s.heap := ⟨_, rfl⟩
  obtain ⟨locs, eL⟩ : ∃ z : List Loc, z = [] := ⟨_, rfl⟩
  have hP : va_P D vwCl [(a_this, .inr (7, [.ref a_slots, .ref a_script, .ref a_history, .ref a_sums, .ref a_addend, .ref a_grids, .ref a_pairings, .ref a_swellings, .ref a_smallestSets])), (a_slots, .inl (cL, 4, .inr (.inl g_slots))), (a_sums, .inr (6, [.ref a_sums_words])), (a_sums_words, .inl (cL, 4, .inr (.inl g_sums_words))), (a_addend, .inr (6, [.ref a_addend_words])), (a_addend_words, .inl (cL, 4, .inr (.inl g_addend_words)))] H := by rw [eH]; exact hP
  have hS : va_S A s.heap H locs := by rw [eH, eL]; exact hS
  suffices hG : W p l e rmX7_tight s m ([.ref a_this, .int q1, .int q2] : List Value).toArray below meth c H locs 0 0 (MQ below (cQi D r0 A [(a_this, .inr (7, [.ref a_slots, .ref a_script, .ref a_history, .ref a_sums, .ref a_addend, .ref a_grids, .ref a_pairings, .ref a_swellings, .ref a_smallestSets])), (a_slots, .inl (cL, 4, .inr (.inl g_slots))), (a_sums, .inr (6, [.ref a_sums_words])), (a_sums_words, .inl (cL, 4, .inr (.inl v_sums_words))), (a_addend, .inr (6, [.ref a_addend_words])), (a_addend_words, .inl (cL, 4, .inr (.inl v_addend_words)))]) ([.ref a_this, .int q1, .int q2] : List Value).toArray s 0 0 A) (F0 m 0 ls []) by rw [eH, eL] at hG; exact hG
  refine lv_iload_n hx hb dX7_tight_0 rfl (lv_at hl 1 rfl) ?_
  obtain ⟨u1, hu1, hf⟩ := bd_some hf
  refine caSI (rest := []) (As := [.int q1]) (wr := [(a_this, .inr (7, [.ref a_slots, .ref a_script, .ref a_history, .ref a_sums, .ref a_addend, .ref a_grids, .ref a_pairings, .ref a_swellings, .ref a_smallestSets])), (a_slots, .inl (cL, 4, .inr (.inl g_slots))), (a_sums, .inr (6, [.ref a_sums_words])), (a_sums_words, .inl (cL, 4, .inr (.inl g_sums_words))), (a_addend, .inr (6, [.ref a_addend_words])), (a_addend_words, .inl (cL, 4, .inr (.inl g_addend_words)))]) (wo := [(a_this, .inr (7, [.ref a_slots, .ref a_script, .ref a_history, .ref a_sums, .ref a_addend, .ref a_grids, .ref a_pairings, .ref a_swellings, .ref a_smallestSets])), (a_slots, .inl (cL, 4, .inr (.inl g_slots))), (a_sums, .inr (6, [.ref a_sums_words])), (a_sums_words, .inl (cL, 4, .inr (.inl g_sums_words))), (a_addend, .inr (6, [.ref a_addend_words])), (a_addend_words, .inl (cL, 4, .inr (.inl g_addend_words)))]) ⟨hx, hb, hml, hown, hts⟩ hN hP hD hS hA (cX7_isSlot_ct l D cI cL cC cZ q1 u1 hu1) z1 [] [0, 1, 2, 3, 4, 5] [0, 1, 2, 3, 4, 5] rfl (by decide) rfl (by decide) (by decide) rfl (by decide) rfl hl.1 rfl (Nat.le_of_ble_eq_true rfl) dX7_tight_1 ⟨Nat.zero_le _, Nat.zero_le _⟩ (fun H locs hP hD hS => ?_)
  refine lv_if_eq (tgt := 14) hx hb dX7_tight_4 (by decide) (fun c2 => ?_) (fun c2 => ?_)
  · have hf := br_pos c2 hf
    refine lv_iconst (v := -1) hx hb dX7_tight_14 (by decide) ?_
    have hE : ((-1 : Int32), g_sums_words, g_addend_words) = (r0, v_sums_words, v_addend_words) := Option.some.inj hf
    simp only [Prod.mk.injEq] at hE
    obtain ⟨rfl, rfl, rfl⟩ := hE
    exact rtI hx hb hr hlk hP hD hS dX7_tight_15
  · have hf := br_neg c2 hf
    refine lv_iload_n hx hb dX7_tight_7 rfl (lv_at hl 2 rfl) ?_
    obtain ⟨u3, hu3, hf⟩ := bd_some hf
    refine caSI (rest := []) (As := [.int q2]) (wr := [(a_this, .inr (7, [.ref a_slots, .ref a_script, .ref a_history, .ref a_sums, .ref a_addend, .ref a_grids, .ref a_pairings, .ref a_swellings, .ref a_smallestSets])), (a_slots, .inl (cL, 4, .inr (.inl g_slots))), (a_sums, .inr (6, [.ref a_sums_words])), (a_sums_words, .inl (cL, 4, .inr (.inl g_sums_words))), (a_addend, .inr (6, [.ref a_addend_words])), (a_addend_words, .inl (cL, 4, .inr (.inl g_addend_words)))]) (wo := [(a_this, .inr (7, [.ref a_slots, .ref a_script, .ref a_history, .ref a_sums, .ref a_addend, .ref a_grids, .ref a_pairings, .ref a_swellings, .ref a_smallestSets])), (a_slots, .inl (cL, 4, .inr (.inl g_slots))), (a_sums, .inr (6, [.ref a_sums_words])), (a_sums_words, .inl (cL, 4, .inr (.inl g_sums_words))), (a_addend, .inr (6, [.ref a_addend_words])), (a_addend_words, .inl (cL, 4, .inr (.inl g_addend_words)))]) ⟨hx, hb, hml, hown, hts⟩ hN hP hD hS hA (cX7_isSlot_ct l D cI cL cC cZ q2 u3 hu3) z1 [] [0, 1, 2, 3, 4, 5] [0, 1, 2, 3, 4, 5] rfl (by decide) rfl (by decide) (by decide) rfl (by decide) rfl hl.1 rfl (Nat.le_of_ble_eq_true rfl) dX7_tight_8 ⟨Nat.zero_le _, Nat.zero_le _⟩ (fun H locs hP hD hS => ?_)
    refine lv_if_ne (tgt := 16) hx hb dX7_tight_11 (by decide) (fun c4 => ?_) (fun c4 => ?_)
    · have hf := br_neg c4 hf
      refine lv_aload_n hx hb dX7_tight_16 rfl (lv_at hl 0 rfl) ?_
      refine va_get (D := D) (ci := 7) (v := .ref a_slots) (C := RX7) (T := TX7) (N := 9) hx hb hts z2 hown hN.1 hP 0 rfl rfl 0 (by decide) z3 (fun _ h9 => h9) rfl dX7_tight_17 ?_
      refine lv_iload_n hx hb dX7_tight_20 rfl (lv_at hl 1 rfl) ?_
      obtain ⟨c5, hf⟩ := gd_some hf
      refine va_lald hx hb hN.1 hP 1 1 rfl rfl (ix_in c5) dX7_tight_21 ?_
      refine lv_lconst (v := 0) hx hb dX7_tight_22 (by decide) ?_
      refine W.lcmp hx hb dX7_tight_23 ?_
      refine lv_if_eq (tgt := 38) hx hb dX7_tight_24 (by decide) (fun c6 => ?_) (fun c6 => ?_)
      · have hf := br_pos c6 hf
        refine lv_bipush (v := -2) hx hb dX7_tight_38 (by decide) ?_
        have hE : ((-2 : Int32), g_sums_words, g_addend_words) = (r0, v_sums_words, v_addend_words) := Option.some.inj hf
        simp only [Prod.mk.injEq] at hE
        obtain ⟨rfl, rfl, rfl⟩ := hE
        exact rtI hx hb hr hlk hP hD hS dX7_tight_40
      · have hf := br_neg c6 hf
        refine lv_aload_n hx hb dX7_tight_27 rfl (lv_at hl 0 rfl) ?_
        refine va_get (D := D) (ci := 7) (v := .ref a_slots) (C := RX7) (T := TX7) (N := 9) hx hb hts z2 hown hN.1 hP 0 rfl rfl 0 (by decide) z3 (fun _ h9 => h9) rfl dX7_tight_28 ?_
        refine lv_iload_n hx hb dX7_tight_31 rfl (lv_at hl 2 rfl) ?_
        obtain ⟨c7, hf⟩ := gd_some hf
        refine va_lald hx hb hN.1 hP 1 1 rfl rfl (ix_in c7) dX7_tight_32 ?_
        refine lv_lconst (v := 0) hx hb dX7_tight_33 (by decide) ?_
        refine W.lcmp hx hb dX7_tight_34 ?_
        refine lv_if_ne (tgt := 41) hx hb dX7_tight_35 (by decide) (fun c8 => ?_) (fun c8 => ?_)
        · have hf := br_neg c8 hf
          refine lv_aload_n hx hb dX7_tight_41 rfl (lv_at hl 0 rfl) ?_
          refine va_get (D := D) (ci := 7) (v := .ref a_slots) (C := RX7) (T := TX7) (N := 9) hx hb hts z2 hown hN.1 hP 0 rfl rfl 0 (by decide) z3 (fun _ h9 => h9) rfl dX7_tight_42 ?_
          refine lv_iload_n hx hb dX7_tight_45 rfl (lv_at hl 1 rfl) ?_
          obtain ⟨c9, hf⟩ := gd_some hf
          refine va_lald hx hb hN.1 hP 1 1 rfl rfl (ix_in c9) dX7_tight_46 ?_
          obtain ⟨u10, hu10, hf⟩ := bd_some hf
          refine caSI (rest := []) (As := [.long (g_slots q1.toNatClampNeg)]) (wr := [(a_this, .inr (7, [.ref a_slots, .ref a_script, .ref a_history, .ref a_sums, .ref a_addend, .ref a_grids, .ref a_pairings, .ref a_swellings, .ref a_smallestSets])), (a_slots, .inl (cL, 4, .inr (.inl g_slots))), (a_sums, .inr (6, [.ref a_sums_words])), (a_sums_words, .inl (cL, 4, .inr (.inl g_sums_words))), (a_addend, .inr (6, [.ref a_addend_words])), (a_addend_words, .inl (cL, 4, .inr (.inl g_addend_words)))]) (wo := [(a_this, .inr (7, [.ref a_slots, .ref a_script, .ref a_history, .ref a_sums, .ref a_addend, .ref a_grids, .ref a_pairings, .ref a_swellings, .ref a_smallestSets])), (a_slots, .inl (cL, 4, .inr (.inl g_slots))), (a_sums, .inr (6, [.ref a_sums_words])), (a_sums_words, .inl (cL, 4, .inr (.inl g_sums_words))), (a_addend, .inr (6, [.ref a_addend_words])), (a_addend_words, .inl (cL, 4, .inr (.inl g_addend_words)))]) ⟨hx, hb, hml, hown, hts⟩ hN hP hD hS hA (cJ13_bitCount_95d88_ct l D cI cL cC cZ (g_slots q1.toNatClampNeg) u10 hu10) z4 [] [0, 1, 2, 3, 4, 5] [0, 1, 2, 3, 4, 5] rfl (by decide) rfl (by decide) (by decide) rfl (by decide) rfl hl.1 rfl (Nat.le_of_ble_eq_true rfl) dX7_tight_47 ⟨Nat.zero_le _, Nat.zero_le _⟩ (fun H locs hP hD hS => ?_)
          refine lv_iconst (v := 2) hx hb dX7_tight_50 (by decide) ?_
          refine lv_icmp_lt (tgt := 67) hx hb dX7_tight_51 (by decide) (fun c11 => ?_) (fun c11 => ?_)
          · have hf := br_pos c11 hf
            refine lv_iconst (v := 0) hx hb dX7_tight_67 (by decide) ?_
            have hE : ((0 : Int32), g_sums_words, g_addend_words) = (r0, v_sums_words, v_addend_words) := Option.some.inj hf
            simp only [Prod.mk.injEq] at hE
            obtain ⟨rfl, rfl, rfl⟩ := hE
            exact rtI hx hb hr hlk hP hD hS dX7_tight_68
          · have hf := br_neg c11 hf
            refine lv_aload_n hx hb dX7_tight_54 rfl (lv_at hl 0 rfl) ?_
            refine va_get (D := D) (ci := 7) (v := .ref a_slots) (C := RX7) (T := TX7) (N := 9) hx hb hts z2 hown hN.1 hP 0 rfl rfl 0 (by decide) z3 (fun _ h9 => h9) rfl dX7_tight_55 ?_
            refine lv_iload_n hx hb dX7_tight_58 rfl (lv_at hl 2 rfl) ?_
            obtain ⟨c12, hf⟩ := gd_some hf
            refine va_lald hx hb hN.1 hP 1 1 rfl rfl (ix_in c12) dX7_tight_59 ?_
            obtain ⟨u13, hu13, hf⟩ := bd_some hf
            refine caSI (rest := []) (As := [.long (g_slots q2.toNatClampNeg)]) (wr := [(a_this, .inr (7, [.ref a_slots, .ref a_script, .ref a_history, .ref a_sums, .ref a_addend, .ref a_grids, .ref a_pairings, .ref a_swellings, .ref a_smallestSets])), (a_slots, .inl (cL, 4, .inr (.inl g_slots))), (a_sums, .inr (6, [.ref a_sums_words])), (a_sums_words, .inl (cL, 4, .inr (.inl g_sums_words))), (a_addend, .inr (6, [.ref a_addend_words])), (a_addend_words, .inl (cL, 4, .inr (.inl g_addend_words)))]) (wo := [(a_this, .inr (7, [.ref a_slots, .ref a_script, .ref a_history, .ref a_sums, .ref a_addend, .ref a_grids, .ref a_pairings, .ref a_swellings, .ref a_smallestSets])), (a_slots, .inl (cL, 4, .inr (.inl g_slots))), (a_sums, .inr (6, [.ref a_sums_words])), (a_sums_words, .inl (cL, 4, .inr (.inl g_sums_words))), (a_addend, .inr (6, [.ref a_addend_words])), (a_addend_words, .inl (cL, 4, .inr (.inl g_addend_words)))]) ⟨hx, hb, hml, hown, hts⟩ hN hP hD hS hA (cJ13_bitCount_95d88_ct l D cI cL cC cZ (g_slots q2.toNatClampNeg) u13 hu13) z4 [] [0, 1, 2, 3, 4, 5] [0, 1, 2, 3, 4, 5] rfl (by decide) rfl (by decide) (by decide) rfl (by decide) rfl hl.1 rfl (Nat.le_of_ble_eq_true rfl) dX7_tight_60 ⟨Nat.zero_le _, Nat.zero_le _⟩ (fun H locs hP hD hS => ?_)
            refine lv_iconst (v := 2) hx hb dX7_tight_63 (by decide) ?_
            refine lv_icmp_ge (tgt := 69) hx hb dX7_tight_64 (by decide) (fun c14 => ?_) (fun c14 => ?_)
            · have hf := br_pos c14 hf
              refine lv_aload_n hx hb dX7_tight_69 rfl (lv_at hl 0 rfl) ?_
              refine lv_aload_n hx hb dX7_tight_70 rfl (lv_at hl 0 rfl) ?_
              refine va_get (D := D) (ci := 7) (v := .ref a_slots) (C := RX7) (T := TX7) (N := 9) hx hb hts z2 hown hN.1 hP 0 rfl rfl 0 (by decide) z3 (fun _ h9 => h9) rfl dX7_tight_71 ?_
              refine lv_iload_n hx hb dX7_tight_74 rfl (lv_at hl 1 rfl) ?_
              obtain ⟨c15, hf⟩ := gd_some hf
              refine va_lald hx hb hN.1 hP 1 1 rfl rfl (ix_in c15) dX7_tight_75 ?_
              refine lv_aload_n hx hb dX7_tight_76 rfl (lv_at hl 0 rfl) ?_
              refine va_get (D := D) (ci := 7) (v := .ref a_slots) (C := RX7) (T := TX7) (N := 9) hx hb hts z2 hown hN.1 hP 0 rfl rfl 0 (by decide) z3 (fun _ h9 => h9) rfl dX7_tight_77 ?_
              refine lv_iload_n hx hb dX7_tight_80 rfl (lv_at hl 2 rfl) ?_
              obtain ⟨c16, hf⟩ := gd_some hf
              refine va_lald hx hb hN.1 hP 1 1 rfl rfl (ix_in c16) dX7_tight_81 ?_
              obtain ⟨u17, hu17, hf⟩ := bd_some hf
              refine caVV (rest := []) (As := [.long (g_slots q1.toNatClampNeg), .long (g_slots q2.toNatClampNeg)]) (wr := [(a_slots, .inl (cL, 4, .inr (.inl g_slots)))]) (wo := [(a_this, .inr (7, [.ref a_slots, .ref a_script, .ref a_history, .ref a_sums, .ref a_addend, .ref a_grids, .ref a_pairings, .ref a_swellings, .ref a_smallestSets])), (a_slots, .inl (cL, 4, .inr (.inl g_slots))), (a_sums, .inr (6, [.ref a_sums_words])), (a_sums_words, .inl (cL, 4, .inr (.inl u17.1))), (a_addend, .inr (6, [.ref a_addend_words])), (a_addend_words, .inl (cL, 4, .inr (.inl u17.2)))]) ⟨hx, hb, hml, hown, hts⟩ hN hP hD hS hA (cX7_findSums_ct l D cI cL cC cZ a_this a_slots a_script a_history a_sums a_addend a_grids a_pairings a_swellings a_smallestSets a_sums_words a_addend_words g_sums_words g_addend_words (g_slots q1.toNatClampNeg) (g_slots q2.toNatClampNeg) u17.1 u17.2 hu17) z5 0 7 rfl rfl [0, 2, 3, 4, 5] [1] [1, 0, 2, 3, 4, 5] rfl (by decide) rfl (by decide) (by decide) rfl (by decide) rfl hl.1 rfl (Nat.le_of_ble_eq_true rfl) dX7_tight_82 ⟨Nat.zero_le _, Nat.zero_le _⟩ (fun H locs hP hD hS => ?_)
              refine lv_aload_n hx hb dX7_tight_85 rfl (lv_at hl 0 rfl) ?_
              refine va_get (D := D) (ci := 7) (v := .ref a_sums) (C := RX7) (T := TX7) (N := 9) hx hb hts z2 hown hN.1 hP 0 rfl rfl 3 (by decide) z6 (fun _ h9 => h9) rfl dX7_tight_86 ?_
              obtain ⟨u18, hu18, hf⟩ := bd_some hf
              refine caVI (rest := []) (As := []) (wr := [(a_this, .inr (7, [.ref a_slots, .ref a_script, .ref a_history, .ref a_sums, .ref a_addend, .ref a_grids, .ref a_pairings, .ref a_swellings, .ref a_smallestSets])), (a_slots, .inl (cL, 4, .inr (.inl g_slots))), (a_addend, .inr (6, [.ref a_addend_words])), (a_addend_words, .inl (cL, 4, .inr (.inl u17.2)))]) (wo := [(a_this, .inr (7, [.ref a_slots, .ref a_script, .ref a_history, .ref a_sums, .ref a_addend, .ref a_grids, .ref a_pairings, .ref a_swellings, .ref a_smallestSets])), (a_slots, .inl (cL, 4, .inr (.inl g_slots))), (a_sums, .inr (6, [.ref a_sums_words])), (a_sums_words, .inl (cL, 4, .inr (.inl u17.1))), (a_addend, .inr (6, [.ref a_addend_words])), (a_addend_words, .inl (cL, 4, .inr (.inl u17.2)))]) ⟨hx, hb, hml, hown, hts⟩ hN hP hD hS hA (cX6_size_ct l D cI cL cC cZ a_sums a_sums_words u17.1 u18 hu18) z7 2 6 rfl rfl [2, 3] [0, 1, 4, 5] [0, 1, 4, 5, 2, 3] rfl (by decide) rfl (by decide) (by decide) rfl (by decide) rfl hl.1 rfl (Nat.le_of_ble_eq_true rfl) dX7_tight_89 ⟨Nat.zero_le _, Nat.zero_le _⟩ (fun H locs hP hD hS => ?_)
              refine lv_aload_n hx hb dX7_tight_92 rfl (lv_at hl 0 rfl) ?_
              refine va_get (D := D) (ci := 7) (v := .ref a_slots) (C := RX7) (T := TX7) (N := 9) hx hb hts z2 hown hN.1 hP 0 rfl rfl 0 (by decide) z3 (fun _ h9 => h9) rfl dX7_tight_93 ?_
              refine lv_iload_n hx hb dX7_tight_96 rfl (lv_at hl 1 rfl) ?_
              obtain ⟨c19, hf⟩ := gd_some hf
              refine va_lald hx hb hN.1 hP 1 1 rfl rfl (ix_in c19) dX7_tight_97 ?_
              refine lv_aload_n hx hb dX7_tight_98 rfl (lv_at hl 0 rfl) ?_
              refine va_get (D := D) (ci := 7) (v := .ref a_slots) (C := RX7) (T := TX7) (N := 9) hx hb hts z2 hown hN.1 hP 0 rfl rfl 0 (by decide) z3 (fun _ h9 => h9) rfl dX7_tight_99 ?_
              refine lv_iload_n hx hb dX7_tight_102 rfl (lv_at hl 2 rfl) ?_
              obtain ⟨c20, hf⟩ := gd_some hf
              refine va_lald hx hb hN.1 hP 1 1 rfl rfl (ix_in c20) dX7_tight_103 ?_
              obtain ⟨u21, hu21, hf⟩ := bd_some hf
              refine caSI (rest := [.int u18]) (As := [.long (g_slots q1.toNatClampNeg), .long (g_slots q2.toNatClampNeg)]) (wr := [(a_this, .inr (7, [.ref a_slots, .ref a_script, .ref a_history, .ref a_sums, .ref a_addend, .ref a_grids, .ref a_pairings, .ref a_swellings, .ref a_smallestSets])), (a_slots, .inl (cL, 4, .inr (.inl g_slots))), (a_sums, .inr (6, [.ref a_sums_words])), (a_sums_words, .inl (cL, 4, .inr (.inl u17.1))), (a_addend, .inr (6, [.ref a_addend_words])), (a_addend_words, .inl (cL, 4, .inr (.inl u17.2)))]) (wo := [(a_this, .inr (7, [.ref a_slots, .ref a_script, .ref a_history, .ref a_sums, .ref a_addend, .ref a_grids, .ref a_pairings, .ref a_swellings, .ref a_smallestSets])), (a_slots, .inl (cL, 4, .inr (.inl g_slots))), (a_sums, .inr (6, [.ref a_sums_words])), (a_sums_words, .inl (cL, 4, .inr (.inl u17.1))), (a_addend, .inr (6, [.ref a_addend_words])), (a_addend_words, .inl (cL, 4, .inr (.inl u17.2)))]) ⟨hx, hb, hml, hown, hts⟩ hN hP hD hS hA (cX7_fewestSums_ct l D cI cL cC cZ (g_slots q1.toNatClampNeg) (g_slots q2.toNatClampNeg) u21 hu21) z8 [] [0, 1, 2, 3, 4, 5] [0, 1, 2, 3, 4, 5] rfl (by decide) rfl (by decide) (by decide) rfl (by decide) rfl hl.1 rfl (Nat.le_of_ble_eq_true rfl) dX7_tight_104 ⟨Nat.zero_le _, Nat.zero_le _⟩ (fun H locs hP hD hS => ?_)
              refine lv_icmp_ne (tgt := 114) hx hb dX7_tight_107 (by decide) (fun c22 => ?_) (fun c22 => ?_)
              · have hf := br_neg c22 hf
                refine lv_iconst (v := 0) hx hb dX7_tight_114 (by decide) ?_
                have hE : ((0 : Int32), u17.1, u17.2) = (r0, v_sums_words, v_addend_words) := Option.some.inj hf
                simp only [Prod.mk.injEq] at hE
                obtain ⟨rfl, rfl, rfl⟩ := hE
                exact rtI hx hb hr hlk hP hD hS dX7_tight_115
              · have hf := br_pos c22 hf
                refine lv_iconst (v := 1) hx hb dX7_tight_110 (by decide) ?_
                refine lv_goto (tgt := 115) hx hb dX7_tight_111 (by decide) ?_
                have hE : ((1 : Int32), u17.1, u17.2) = (r0, v_sums_words, v_addend_words) := Option.some.inj hf
                simp only [Prod.mk.injEq] at hE
                obtain ⟨rfl, rfl, rfl⟩ := hE
                exact rtI hx hb hr hlk hP hD hS dX7_tight_115
            · have hf := br_neg c14 hf
              refine lv_iconst (v := 0) hx hb dX7_tight_67 (by decide) ?_
              have hE : ((0 : Int32), g_sums_words, g_addend_words) = (r0, v_sums_words, v_addend_words) := Option.some.inj hf
              simp only [Prod.mk.injEq] at hE
              obtain ⟨rfl, rfl, rfl⟩ := hE
              exact rtI hx hb hr hlk hP hD hS dX7_tight_68
        · have hf := br_pos c8 hf
          refine lv_bipush (v := -2) hx hb dX7_tight_38 (by decide) ?_
          have hE : ((-2 : Int32), g_sums_words, g_addend_words) = (r0, v_sums_words, v_addend_words) := Option.some.inj hf
          simp only [Prod.mk.injEq] at hE
          obtain ⟨rfl, rfl, rfl⟩ := hE
          exact rtI hx hb hr hlk hP hD hS dX7_tight_40
    · have hf := br_pos c4 hf
      refine lv_iconst (v := -1) hx hb dX7_tight_14 (by decide) ?_
      have hE : ((-1 : Int32), g_sums_words, g_addend_words) = (r0, v_sums_words, v_addend_words) := Option.some.inj hf
      simp only [Prod.mk.injEq] at hE
      obtain ⟨rfl, rfl, rfl⟩ := hE
      exact rtI hx hb hr hlk hP hD hS dX7_tight_15
abbrev rmX7_room : Room := { frames := 5, cells := 0, slots := 0, locals := 110 }
noncomputable def fX7_room (q1 : Int32) (g_slots : Nat → Int64) (g_sums_words : Nat → Int64) (g_addend_words : Nat → Int64) : Option (Int32 × (Nat → Int64) × (Nat → Int64)) := bd (fX7_isSlot q1) (fun u1 => br (u1 = 0) (some (((-1 : Int32), g_sums_words, g_addend_words))) (gd (¬ q1 < 0 ∧ q1.toNatClampNeg < 4) (bd (fJ13_bitCount_95d88 (g_slots q1.toNatClampNeg)) (fun u4 => gd (¬ q1 < 0 ∧ q1.toNatClampNeg < 4) (gd (¬ q1 < 0 ∧ q1.toNatClampNeg < 4) (bd (fX7_findSums (g_slots q1.toNatClampNeg) (g_slots q1.toNatClampNeg) g_sums_words g_addend_words) (fun u7 => br (u4 < (3 : Int32)) (some (((-4 : Int32), u7.1, u7.2))) (bd (fX6_size u7.1) (fun u9 => br (u9 ≤ (((3 : Int32) * u4) - (4 : Int32))) (bd (fX6_size u7.1) (fun u11 => gd (¬ q1 < 0 ∧ q1.toNatClampNeg < 4) (bd (fX7_coverLength (g_slots q1.toNatClampNeg)) (fun u13 => some ((((u11 - u4) + (1 : Int32)) - u13, u7.1, u7.2)))))) (some (((-4 : Int32), u7.1, u7.2))))))))))))
set_option maxHeartbeats 4000000 in
set_option maxRecDepth 100000 in
theorem cX7_room_ct (l : Launch) (D : va_G) (cI cL cC cZ : ClassId) (a_this a_slots a_script a_history a_sums a_addend a_grids a_pairings a_swellings a_smallestSets a_sums_words a_addend_words : Nat) (g_slots : Nat → Int64) (g_sums_words : Nat → Int64) (g_addend_words : Nat → Int64) (q1 : Int32) (r0 : Int32) (v_sums_words : Nat → Int64) (v_addend_words : Nat → Int64) (hf : fX7_room q1 g_slots g_sums_words g_addend_words = some ((r0, v_sums_words, v_addend_words))) : CtI l yX7_room wsX7_room rmX7_room D (tyz cI cL cC cZ) [.ref a_this, .int q1] [(a_this, .inr (7, [.ref a_slots, .ref a_script, .ref a_history, .ref a_sums, .ref a_addend, .ref a_grids, .ref a_pairings, .ref a_swellings, .ref a_smallestSets])), (a_slots, .inl (cL, 4, .inr (.inl g_slots))), (a_sums, .inr (6, [.ref a_sums_words])), (a_sums_words, .inl (cL, 4, .inr (.inl g_sums_words))), (a_addend, .inr (6, [.ref a_addend_words])), (a_addend_words, .inl (cL, 4, .inr (.inl g_addend_words)))] [(a_this, .inr (7, [.ref a_slots, .ref a_script, .ref a_history, .ref a_sums, .ref a_addend, .ref a_grids, .ref a_pairings, .ref a_swellings, .ref a_smallestSets])), (a_slots, .inl (cL, 4, .inr (.inl g_slots))), (a_sums, .inr (6, [.ref a_sums_words])), (a_sums_words, .inl (cL, 4, .inr (.inl v_sums_words))), (a_addend, .inr (6, [.ref a_addend_words])), (a_addend_words, .inl (cL, 4, .inr (.inl v_addend_words)))] r0 := by
  refine CtI.make (cc := cX7_room) (maxL := 3) (ty := .int) (by decide) rfl (Nat.le_of_ble_eq_true rfl) ?_
  intro p e s m below meth c A ls C0 hN hA hP hD hl
  obtain ⟨hx, hb, hr, hml, hown, hts, hlk⟩ := id C0
  have hown : s.vm.findClass RX7 = some m.cls := hown
  have hS : va_S A s.heap s.heap [] := va_S.rf
  have hP : va_P D vwCl [(a_this, .inr (7, [.ref a_slots, .ref a_script, .ref a_history, .ref a_sums, .ref a_addend, .ref a_grids, .ref a_pairings, .ref a_swellings, .ref a_smallestSets])), (a_slots, .inl (cL, 4, .inr (.inl g_slots))), (a_sums, .inr (6, [.ref a_sums_words])), (a_sums_words, .inl (cL, 4, .inr (.inl g_sums_words))), (a_addend, .inr (6, [.ref a_addend_words])), (a_addend_words, .inl (cL, 4, .inr (.inl g_addend_words)))] s.heap := hP
  have hD : va_D A [(a_this, .inr (7, [.ref a_slots, .ref a_script, .ref a_history, .ref a_sums, .ref a_addend, .ref a_grids, .ref a_pairings, .ref a_swellings, .ref a_smallestSets])), (a_slots, .inl (cL, 4, .inr (.inl g_slots))), (a_sums, .inr (6, [.ref a_sums_words])), (a_sums_words, .inl (cL, 4, .inr (.inl g_sums_words))), (a_addend, .inr (6, [.ref a_addend_words])), (a_addend_words, .inl (cL, 4, .inr (.inl g_addend_words)))] := hD
  have hl : lv_has ls 3 [(0, .ref a_this), (1, .int q1)] := hl
  have z1 := va_cwS (R := rmX7_room) (rm := rmX7_isSlot) (mc := 0) (ms := 0) 1 hts gX7_room_X7_isSlot rfl rfl rfl (by decide +kernel) ⟨Nat.le_of_ble_eq_true rfl, Nat.le_of_ble_eq_true rfl⟩
  have z2 : ∀ w ∈ u_ws RX7 TX7 9, w ∈ wsX7_room := by decide +kernel
  have z3 := hts (.fieldLink RX7 9 "LittleSums" "slots" "[J") (by decide +kernel)
  have z4 := va_cwS (R := rmX7_room) (rm := rmJ13_bitCount_95d88) (mc := 0) (ms := 0) 1 hts gX7_room_J13_bitCount_95d88 rfl rfl rfl (by decide +kernel) ⟨Nat.le_of_ble_eq_true rfl, Nat.le_of_ble_eq_true rfl⟩
  have z5 := cwV (R := rmX7_room) (rm := rmX7_findSums) (mc := 0) (ms := 0) 2 hts gX7_room_X7_findSums rfl rfl rfl (by decide +kernel) ⟨Nat.le_of_ble_eq_true rfl, Nat.le_of_ble_eq_true rfl⟩
  have z6 := hts (.fieldLink RX7 30 "LittleSums" "sums" "LLittleSums$Wide;") (by decide +kernel)
  have z7 := cwV (R := rmX7_room) (rm := rmX6_size) (mc := 0) (ms := 0) 0 hts gX7_room_X6_size rfl rfl rfl (by decide +kernel) ⟨Nat.le_of_ble_eq_true rfl, Nat.le_of_ble_eq_true rfl⟩
  have z8 := va_cwS (R := rmX7_room) (rm := rmX7_coverLength) (mc := 0) (ms := 0) 1 hts gX7_room_X7_coverLength rfl rfl rfl (by decide +kernel) ⟨Nat.le_of_ble_eq_true rfl, Nat.le_of_ble_eq_true rfl⟩
  unfold fX7_room at hf
  obtain ⟨H, eH⟩ : ∃ z, z = s.heap := ⟨_, rfl⟩
  obtain ⟨locs, eL⟩ : ∃ z : List Loc, z = [] := ⟨_, rfl⟩
  have hP : va_P D vwCl [(a_this, .inr (7, [.ref a_slots, .ref a_script, .ref a_history, .ref a_sums, .ref a_addend, .ref a_grids, .ref a_pairings, .ref a_swellings, .ref a_smallestSets])), (a_slots, .inl (cL, 4, .inr (.inl g_slots))), (a_sums, .inr (6, [.ref a_sums_words])), (a_sums_words, .inl (cL, 4, .inr (.inl g_sums_words))), (a_addend, .inr (6, [.ref a_addend_words])), (a_addend_words, .inl (cL, 4, .inr (.inl g_addend_words)))] H := by rw [eH]; exact hP
  have hS : va_S A s.heap H locs := by rw [eH, eL]; exact hS
  suffices hG : W p l e rmX7_room s m ([.ref a_this, .int q1] : List Value).toArray below meth c H locs 0 0 (MQ below (cQi D r0 A [(a_this, .inr (7, [.ref a_slots, .ref a_script, .ref a_history, .ref a_sums, .ref a_addend, .ref a_grids, .ref a_pairings, .ref a_swellings, .ref a_smallestSets])), (a_slots, .inl (cL, 4, .inr (.inl g_slots))), (a_sums, .inr (6, [.ref a_sums_words])), (a_sums_words, .inl (cL, 4, .inr (.inl v_sums_words))), (a_addend, .inr (6, [.ref a_addend_words])), (a_addend_words, .inl (cL, 4, .inr (.inl v_addend_words)))]) ([.ref a_this, .int q1] : List Value).toArray s 0 0 A) (F0 m 0 ls []) by rw [eH, eL] at hG; exact hG
  refine lv_iload_n hx hb dX7_room_0 rfl (lv_at hl 1 rfl) ?_
  obtain ⟨u1, hu1, hf⟩ := bd_some hf
  refine caSI (rest := []) (As := [.int q1]) (wr := [(a_this, .inr (7, [.ref a_slots, .ref a_script, .ref a_history, .ref a_sums, .ref a_addend, .ref a_grids, .ref a_pairings, .ref a_swellings, .ref a_smallestSets])), (a_slots, .inl (cL, 4, .inr (.inl g_slots))), (a_sums, .inr (6, [.ref a_sums_words])), (a_sums_words, .inl (cL, 4, .inr (.inl g_sums_words))), (a_addend, .inr (6, [.ref a_addend_words])), (a_addend_words, .inl (cL, 4, .inr (.inl g_addend_words)))]) (wo := [(a_this, .inr (7, [.ref a_slots, .ref a_script, .ref a_history, .ref a_sums, .ref a_addend, .ref a_grids, .ref a_pairings, .ref a_swellings, .ref a_smallestSets])), (a_slots, .inl (cL, 4, .inr (.inl g_slots))), (a_sums, .inr (6, [.ref a_sums_words])), (a_sums_words, .inl (cL, 4, .inr (.inl g_sums_words))), (a_addend, .inr (6, [.ref a_addend_words])), (a_addend_words, .inl (cL, 4, .inr (.inl g_addend_words)))]) ⟨hx, hb, hml, hown, hts⟩ hN hP hD hS hA (cX7_isSlot_ct l D cI cL cC cZ q1 u1 hu1) z1 [] [0, 1, 2, 3, 4, 5] [0, 1, 2, 3, 4, 5] rfl (by decide) rfl (by decide) (by decide) rfl (by decide) rfl hl.1 rfl (Nat.le_of_ble_eq_true rfl) dX7_room_1 ⟨Nat.zero_le _, Nat.zero_le _⟩ (fun H locs hP hD hS => ?_)
  refine lv_if_ne (tgt := 9) hx hb dX7_room_4 (by decide) (fun c2 => ?_) (fun c2 => ?_)
  · have hf := br_neg c2 hf
    refine lv_aload_n hx hb dX7_room_9 rfl (lv_at hl 0 rfl) ?_
    refine va_get (D := D) (ci := 7) (v := .ref a_slots) (C := RX7) (T := TX7) (N := 9) hx hb hts z2 hown hN.1 hP 0 rfl rfl 0 (by decide) z3 (fun _ h9 => h9) rfl dX7_room_10 ?_
    refine lv_iload_n hx hb dX7_room_13 rfl (lv_at hl 1 rfl) ?_
    obtain ⟨c3, hf⟩ := gd_some hf
    refine va_lald hx hb hN.1 hP 1 1 rfl rfl (ix_in c3) dX7_room_14 ?_
    obtain ⟨u4, hu4, hf⟩ := bd_some hf
    refine caSI (rest := []) (As := [.long (g_slots q1.toNatClampNeg)]) (wr := [(a_this, .inr (7, [.ref a_slots, .ref a_script, .ref a_history, .ref a_sums, .ref a_addend, .ref a_grids, .ref a_pairings, .ref a_swellings, .ref a_smallestSets])), (a_slots, .inl (cL, 4, .inr (.inl g_slots))), (a_sums, .inr (6, [.ref a_sums_words])), (a_sums_words, .inl (cL, 4, .inr (.inl g_sums_words))), (a_addend, .inr (6, [.ref a_addend_words])), (a_addend_words, .inl (cL, 4, .inr (.inl g_addend_words)))]) (wo := [(a_this, .inr (7, [.ref a_slots, .ref a_script, .ref a_history, .ref a_sums, .ref a_addend, .ref a_grids, .ref a_pairings, .ref a_swellings, .ref a_smallestSets])), (a_slots, .inl (cL, 4, .inr (.inl g_slots))), (a_sums, .inr (6, [.ref a_sums_words])), (a_sums_words, .inl (cL, 4, .inr (.inl g_sums_words))), (a_addend, .inr (6, [.ref a_addend_words])), (a_addend_words, .inl (cL, 4, .inr (.inl g_addend_words)))]) ⟨hx, hb, hml, hown, hts⟩ hN hP hD hS hA (cJ13_bitCount_95d88_ct l D cI cL cC cZ (g_slots q1.toNatClampNeg) u4 hu4) z4 [] [0, 1, 2, 3, 4, 5] [0, 1, 2, 3, 4, 5] rfl (by decide) rfl (by decide) (by decide) rfl (by decide) rfl hl.1 rfl (Nat.le_of_ble_eq_true rfl) dX7_room_15 ⟨Nat.zero_le _, Nat.zero_le _⟩ (fun H locs hP hD hS => ?_)
    refine lv_istore_n (lv' := [(2, .int u4), (0, .ref a_this), (1, .int q1)]) hx hb dX7_room_18 rfl hl (by decide) rfl (fun ls hl => ?_)
    refine lv_aload_n hx hb dX7_room_19 rfl (lv_at hl 1 rfl) ?_
    refine lv_aload_n hx hb dX7_room_20 rfl (lv_at hl 1 rfl) ?_
    refine va_get (D := D) (ci := 7) (v := .ref a_slots) (C := RX7) (T := TX7) (N := 9) hx hb hts z2 hown hN.1 hP 0 rfl rfl 0 (by decide) z3 (fun _ h9 => h9) rfl dX7_room_21 ?_
    refine lv_iload_n hx hb dX7_room_24 rfl (lv_at hl 2 rfl) ?_
    obtain ⟨c5, hf⟩ := gd_some hf
    refine va_lald hx hb hN.1 hP 1 1 rfl rfl (ix_in c5) dX7_room_25 ?_
    refine lv_aload_n hx hb dX7_room_26 rfl (lv_at hl 1 rfl) ?_
    refine va_get (D := D) (ci := 7) (v := .ref a_slots) (C := RX7) (T := TX7) (N := 9) hx hb hts z2 hown hN.1 hP 0 rfl rfl 0 (by decide) z3 (fun _ h9 => h9) rfl dX7_room_27 ?_
    refine lv_iload_n hx hb dX7_room_30 rfl (lv_at hl 2 rfl) ?_
    obtain ⟨c6, hf⟩ := gd_some hf
    refine va_lald hx hb hN.1 hP 1 1 rfl rfl (ix_in c6) dX7_room_31 ?_
    obtain ⟨u7, hu7, hf⟩ := bd_some hf
    refine caVV (rest := []) (As := [.long (g_slots q1.toNatClampNeg), .long (g_slots q1.toNatClampNeg)]) (wr := [(a_slots, .inl (cL, 4, .inr (.inl g_slots)))]) (wo := [(a_this, .inr (7, [.ref a_slots, .ref a_script, .ref a_history, .ref a_sums, .ref a_addend, .ref a_grids, .ref a_pairings, .ref a_swellings, .ref a_smallestSets])), (a_slots, .inl (cL, 4, .inr (.inl g_slots))), (a_sums, .inr (6, [.ref a_sums_words])), (a_sums_words, .inl (cL, 4, .inr (.inl u7.1))), (a_addend, .inr (6, [.ref a_addend_words])), (a_addend_words, .inl (cL, 4, .inr (.inl u7.2)))]) ⟨hx, hb, hml, hown, hts⟩ hN hP hD hS hA (cX7_findSums_ct l D cI cL cC cZ a_this a_slots a_script a_history a_sums a_addend a_grids a_pairings a_swellings a_smallestSets a_sums_words a_addend_words g_sums_words g_addend_words (g_slots q1.toNatClampNeg) (g_slots q1.toNatClampNeg) u7.1 u7.2 hu7) z5 0 7 rfl rfl [0, 2, 3, 4, 5] [1] [1, 0, 2, 3, 4, 5] rfl (by decide) rfl (by decide) (by decide) rfl (by decide) rfl hl.1 rfl (Nat.le_of_ble_eq_true rfl) dX7_room_32 ⟨Nat.zero_le _, Nat.zero_le _⟩ (fun H locs hP hD hS => ?_)
    refine lv_iload_n hx hb dX7_room_35 rfl (lv_at hl 0 rfl) ?_
    refine lv_iconst (v := 3) hx hb dX7_room_36 (by decide) ?_
    refine lv_icmp_lt (tgt := 55) hx hb dX7_room_37 (by decide) (fun c8 => ?_) (fun c8 => ?_)
    · have hf := br_pos c8 hf
      refine lv_bipush (v := -4) hx hb dX7_room_55 (by decide) ?_
      have hE : ((-4 : Int32), u7.1, u7.2) = (r0, v_sums_words, v_addend_words) := Option.some.inj hf
      simp only [Prod.mk.injEq] at hE
      obtain ⟨rfl, rfl, rfl⟩ := hE
      exact rtI hx hb hr hlk hP hD hS dX7_room_57
    · have hf := br_neg c8 hf
      refine lv_aload_n hx hb dX7_room_40 rfl (lv_at hl 1 rfl) ?_
      refine va_get (D := D) (ci := 7) (v := .ref a_sums) (C := RX7) (T := TX7) (N := 9) hx hb hts z2 hown hN.1 hP 0 rfl rfl 3 (by decide) z6 (fun _ h9 => h9) rfl dX7_room_41 ?_
      obtain ⟨u9, hu9, hf⟩ := bd_some hf
      refine caVI (rest := []) (As := []) (wr := [(a_this, .inr (7, [.ref a_slots, .ref a_script, .ref a_history, .ref a_sums, .ref a_addend, .ref a_grids, .ref a_pairings, .ref a_swellings, .ref a_smallestSets])), (a_slots, .inl (cL, 4, .inr (.inl g_slots))), (a_addend, .inr (6, [.ref a_addend_words])), (a_addend_words, .inl (cL, 4, .inr (.inl u7.2)))]) (wo := [(a_this, .inr (7, [.ref a_slots, .ref a_script, .ref a_history, .ref a_sums, .ref a_addend, .ref a_grids, .ref a_pairings, .ref a_swellings, .ref a_smallestSets])), (a_slots, .inl (cL, 4, .inr (.inl g_slots))), (a_sums, .inr (6, [.ref a_sums_words])), (a_sums_words, .inl (cL, 4, .inr (.inl u7.1))), (a_addend, .inr (6, [.ref a_addend_words])), (a_addend_words, .inl (cL, 4, .inr (.inl u7.2)))]) ⟨hx, hb, hml, hown, hts⟩ hN hP hD hS hA (cX6_size_ct l D cI cL cC cZ a_sums a_sums_words u7.1 u9 hu9) z7 2 6 rfl rfl [2, 3] [0, 1, 4, 5] [0, 1, 4, 5, 2, 3] rfl (by decide) rfl (by decide) (by decide) rfl (by decide) rfl hl.1 rfl (Nat.le_of_ble_eq_true rfl) dX7_room_44 ⟨Nat.zero_le _, Nat.zero_le _⟩ (fun H locs hP hD hS => ?_)
      refine lv_iconst (v := 3) hx hb dX7_room_47 (by decide) ?_
      refine lv_iload_n hx hb dX7_room_48 rfl (lv_at hl 0 rfl) ?_
      refine lv_imul hx hb dX7_room_49 ?_
      refine lv_iconst (v := 4) hx hb dX7_room_50 (by decide) ?_
      refine lv_isub hx hb dX7_room_51 ?_
      refine lv_icmp_le (tgt := 58) hx hb dX7_room_52 (by decide) (fun c10 => ?_) (fun c10 => ?_)
      · have hf := br_pos c10 hf
        refine lv_aload_n hx hb dX7_room_58 rfl (lv_at hl 1 rfl) ?_
        refine va_get (D := D) (ci := 7) (v := .ref a_sums) (C := RX7) (T := TX7) (N := 9) hx hb hts z2 hown hN.1 hP 0 rfl rfl 3 (by decide) z6 (fun _ h9 => h9) rfl dX7_room_59 ?_
        obtain ⟨u11, hu11, hf⟩ := bd_some hf
        refine caVI (rest := []) (As := []) (wr := [(a_this, .inr (7, [.ref a_slots, .ref a_script, .ref a_history, .ref a_sums, .ref a_addend, .ref a_grids, .ref a_pairings, .ref a_swellings, .ref a_smallestSets])), (a_slots, .inl (cL, 4, .inr (.inl g_slots))), (a_addend, .inr (6, [.ref a_addend_words])), (a_addend_words, .inl (cL, 4, .inr (.inl u7.2)))]) (wo := [(a_this, .inr (7, [.ref a_slots, .ref a_script, .ref a_history, .ref a_sums, .ref a_addend, .ref a_grids, .ref a_pairings, .ref a_swellings, .ref a_smallestSets])), (a_slots, .inl (cL, 4, .inr (.inl g_slots))), (a_sums, .inr (6, [.ref a_sums_words])), (a_sums_words, .inl (cL, 4, .inr (.inl u7.1))), (a_addend, .inr (6, [.ref a_addend_words])), (a_addend_words, .inl (cL, 4, .inr (.inl u7.2)))]) ⟨hx, hb, hml, hown, hts⟩ hN hP hD hS hA (cX6_size_ct l D cI cL cC cZ a_sums a_sums_words u7.1 u11 hu11) z7 2 6 rfl rfl [2, 3] [0, 1, 4, 5] [0, 1, 4, 5, 2, 3] rfl (by decide) rfl (by decide) (by decide) rfl (by decide) rfl hl.1 rfl (Nat.le_of_ble_eq_true rfl) dX7_room_62 ⟨Nat.zero_le _, Nat.zero_le _⟩ (fun H locs hP hD hS => ?_)
        refine lv_iload_n hx hb dX7_room_65 rfl (lv_at hl 0 rfl) ?_
        refine lv_isub hx hb dX7_room_66 ?_
        refine lv_iconst (v := 1) hx hb dX7_room_67 (by decide) ?_
        refine lv_iadd hx hb dX7_room_68 ?_
        refine lv_aload_n hx hb dX7_room_69 rfl (lv_at hl 1 rfl) ?_
        refine va_get (D := D) (ci := 7) (v := .ref a_slots) (C := RX7) (T := TX7) (N := 9) hx hb hts z2 hown hN.1 hP 0 rfl rfl 0 (by decide) z3 (fun _ h9 => h9) rfl dX7_room_70 ?_
        refine lv_iload_n hx hb dX7_room_73 rfl (lv_at hl 2 rfl) ?_
        obtain ⟨c12, hf⟩ := gd_some hf
        refine va_lald hx hb hN.1 hP 1 1 rfl rfl (ix_in c12) dX7_room_74 ?_
        obtain ⟨u13, hu13, hf⟩ := bd_some hf
        refine caSI (rest := [.int ((u11 - u4) + (1 : Int32))]) (As := [.long (g_slots q1.toNatClampNeg)]) (wr := [(a_this, .inr (7, [.ref a_slots, .ref a_script, .ref a_history, .ref a_sums, .ref a_addend, .ref a_grids, .ref a_pairings, .ref a_swellings, .ref a_smallestSets])), (a_slots, .inl (cL, 4, .inr (.inl g_slots))), (a_sums, .inr (6, [.ref a_sums_words])), (a_sums_words, .inl (cL, 4, .inr (.inl u7.1))), (a_addend, .inr (6, [.ref a_addend_words])), (a_addend_words, .inl (cL, 4, .inr (.inl u7.2)))]) (wo := [(a_this, .inr (7, [.ref a_slots, .ref a_script, .ref a_history, .ref a_sums, .ref a_addend, .ref a_grids, .ref a_pairings, .ref a_swellings, .ref a_smallestSets])), (a_slots, .inl (cL, 4, .inr (.inl g_slots))), (a_sums, .inr (6, [.ref a_sums_words])), (a_sums_words, .inl (cL, 4, .inr (.inl u7.1))), (a_addend, .inr (6, [.ref a_addend_words])), (a_addend_words, .inl (cL, 4, .inr (.inl u7.2)))]) ⟨hx, hb, hml, hown, hts⟩ hN hP hD hS hA (cX7_coverLength_ct l D cI cL cC cZ (g_slots q1.toNatClampNeg) u13 hu13) z8 [] [0, 1, 2, 3, 4, 5] [0, 1, 2, 3, 4, 5] rfl (by decide) rfl (by decide) (by decide) rfl (by decide) rfl hl.1 rfl (Nat.le_of_ble_eq_true rfl) dX7_room_75 ⟨Nat.zero_le _, Nat.zero_le _⟩ (fun H locs hP hD hS => ?_)
        refine lv_isub hx hb dX7_room_78 ?_
        have hE : (((u11 - u4) + (1 : Int32)) - u13, u7.1, u7.2) = (r0, v_sums_words, v_addend_words) := Option.some.inj hf
        simp only [Prod.mk.injEq] at hE
        obtain ⟨rfl, rfl, rfl⟩ := hE
        exact rtI hx hb hr hlk hP hD hS dX7_room_79
      · have hf := br_neg c10 hf
        refine lv_bipush (v := -4) hx hb dX7_room_55 (by decide) ?_
        have hE : ((-4 : Int32), u7.1, u7.2) = (r0, v_sums_words, v_addend_words) := Option.some.inj hf
        simp only [Prod.mk.injEq] at hE
        obtain ⟨rfl, rfl, rfl⟩ := hE
        exact rtI hx hb hr hlk hP hD hS dX7_room_57
  · have hf := br_pos c2 hf
    refine lv_iconst (v := -1) hx hb dX7_room_7 (by decide) ?_
    have hE : ((-1 : Int32), g_sums_words, g_addend_words) = (r0, v_sums_words, v_addend_words) := Option.some.inj hf
    simp only [Prod.mk.injEq] at hE
    obtain ⟨rfl, rfl, rfl⟩ := hE
    exact rtI hx hb hr hlk hP hD hS dX7_room_8
abbrev rmX7_smallest : Room := { frames := 3, cells := 0, slots := 0, locals := 67 }
noncomputable def fX7_smallest (q1 : Int32) (q2 : Int32) (q3 : Int32) (g_smallestSets_numbers : Int32) (g_smallestSets_length : Int32) (g_smallestSets_fewest : Int32) (g_smallestSets_size : Int32) : Option (Int32 × Int32 × Int32 × Int32 × Int32) := bd (fX4_isTold q1 q2) (fun u1 => br (u1 = 0) (some (((-1 : Int32), g_smallestSets_numbers, g_smallestSets_length, g_smallestSets_fewest, g_smallestSets_size))) (br ((-2 : Int32) ≤ q3) (bd (fX4_seek q1 q2 g_smallestSets_numbers g_smallestSets_length g_smallestSets_fewest g_smallestSets_size) (fun u4 => br (q3 = (-2 : Int32)) (bd (fX4_size u4.2.2.2) (fun u7 => some ((u7, u4.1, u4.2.1, u4.2.2.1, u4.2.2.2)))) (br (q3 = (-1 : Int32)) (bd (fX4_fewest u4.2.2.1) (fun u8 => some ((u8, u4.1, u4.2.1, u4.2.2.1, u4.2.2.2)))) (bd (fX4_setAt q3 u4.1 u4.2.1 u4.2.2.1 u4.2.2.2) (fun u9 => some ((u9, u4.1, u4.2.1, u4.2.2.1, u4.2.2.2))))))) (some (((-1 : Int32), g_smallestSets_numbers, g_smallestSets_length, g_smallestSets_fewest, g_smallestSets_size)))))
set_option maxHeartbeats 4000000 in
set_option maxRecDepth 100000 in
theorem cX7_smallest_ct (l : Launch) (D : va_G) (cI cL cC cZ : ClassId) (a_this a_slots a_script a_history a_sums a_addend a_grids a_pairings a_swellings a_smallestSets : Nat) (g_smallestSets_numbers : Int32) (g_smallestSets_length : Int32) (g_smallestSets_fewest : Int32) (g_smallestSets_size : Int32) (q1 : Int32) (q2 : Int32) (q3 : Int32) (r0 : Int32) (v_smallestSets_numbers : Int32) (v_smallestSets_length : Int32) (v_smallestSets_fewest : Int32) (v_smallestSets_size : Int32) (hf : fX7_smallest q1 q2 q3 g_smallestSets_numbers g_smallestSets_length g_smallestSets_fewest g_smallestSets_size = some ((r0, v_smallestSets_numbers, v_smallestSets_length, v_smallestSets_fewest, v_smallestSets_size))) : CtI l yX7_smallest wsX7_smallest rmX7_smallest D (tyz cI cL cC cZ) [.ref a_this, .int q1, .int q2, .int q3] [(a_this, .inr (7, [.ref a_slots, .ref a_script, .ref a_history, .ref a_sums, .ref a_addend, .ref a_grids, .ref a_pairings, .ref a_swellings, .ref a_smallestSets])), (a_smallestSets, .inr (4, [.int g_smallestSets_numbers, .int g_smallestSets_length, .int g_smallestSets_fewest, .int g_smallestSets_size]))] [(a_this, .inr (7, [.ref a_slots, .ref a_script, .ref a_history, .ref a_sums, .ref a_addend, .ref a_grids, .ref a_pairings, .ref a_swellings, .ref a_smallestSets])), (a_smallestSets, .inr (4, [.int v_smallestSets_numbers, .int v_smallestSets_length, .int v_smallestSets_fewest, .int v_smallestSets_size]))] r0 := by
  refine CtI.make (cc := cX7_smallest) (maxL := 4) (ty := .int) (by decide) rfl (Nat.le_of_ble_eq_true rfl) ?_
  intro p e s m below meth c A ls C0 hN hA hP hD hl
  obtain ⟨hx, hb, hr, hml, hown, hts, hlk⟩ := id C0
  have hown : s.vm.findClass RX7 = some m.cls := hown
  have hS : va_S A s.heap s.heap [] := va_S.rf
  have hP : va_P D vwCl [(a_this, .inr (7, [.ref a_slots, .ref a_script, .ref a_history, .ref a_sums, .ref a_addend, .ref a_grids, .ref a_pairings, .ref a_swellings, .ref a_smallestSets])), (a_smallestSets, .inr (4, [.int g_smallestSets_numbers, .int g_smallestSets_length, .int g_smallestSets_fewest, .int g_smallestSets_size]))] s.heap := hP
  have hD : va_D A [(a_this, .inr (7, [.ref a_slots, .ref a_script, .ref a_history, .ref a_sums, .ref a_addend, .ref a_grids, .ref a_pairings, .ref a_swellings, .ref a_smallestSets])), (a_smallestSets, .inr (4, [.int g_smallestSets_numbers, .int g_smallestSets_length, .int g_smallestSets_fewest, .int g_smallestSets_size]))] := hD
  have hl : lv_has ls 4 [(0, .ref a_this), (1, .int q1), (2, .int q2), (3, .int q3)] := hl
  have z1 := va_cwS (R := rmX7_smallest) (rm := rmX4_isTold) (mc := 0) (ms := 0) 2 hts gX7_smallest_X4_isTold rfl rfl rfl (by decide +kernel) ⟨Nat.le_of_ble_eq_true rfl, Nat.le_of_ble_eq_true rfl⟩
  have z2 : ∀ w ∈ u_ws RX7 TX7 9, w ∈ wsX7_smallest := by decide +kernel
  have z3 := hts (.fieldLink RX7 61 "LittleSums" "smallestSets" "LLittleSums$SmallestSearch;") (by decide +kernel)
  have z4 := cwV (R := rmX7_smallest) (rm := rmX4_seek) (mc := 0) (ms := 0) 2 hts gX7_smallest_X4_seek rfl rfl rfl (by decide +kernel) ⟨Nat.le_of_ble_eq_true rfl, Nat.le_of_ble_eq_true rfl⟩
  have z5 := cwV (R := rmX7_smallest) (rm := rmX4_size) (mc := 0) (ms := 0) 0 hts gX7_smallest_X4_size rfl rfl rfl (by decide +kernel) ⟨Nat.le_of_ble_eq_true rfl, Nat.le_of_ble_eq_true rfl⟩
  have z6 := cwV (R := rmX7_smallest) (rm := rmX4_fewest) (mc := 0) (ms := 0) 0 hts gX7_smallest_X4_fewest rfl rfl rfl (by decide +kernel) ⟨Nat.le_of_ble_eq_true rfl, Nat.le_of_ble_eq_true rfl⟩
  have z7 := cwV (R := rmX7_smallest) (rm := rmX4_setAt) (mc := 0) (ms := 0) 1 hts gX7_smallest_X4_setAt rfl rfl rfl (by decide +kernel) ⟨Nat.le_of_ble_eq_true rfl, Nat.le_of_ble_eq_true rfl⟩
  unfold fX7_smallest at hf
  obtain ⟨H, eH⟩ : ∃ z, z = s.heap := ⟨_, rfl⟩
  obtain ⟨locs, eL⟩ : ∃ z : List Loc, z = [] := ⟨_, rfl⟩
  have hP : va_P D vwCl [(a_this, .inr (7, [.ref a_slots, .ref a_script, .ref a_history, .ref a_sums, .ref a_addend, .ref a_grids, .ref a_pairings, .ref a_swellings, .ref a_smallestSets])), (a_smallestSets, .inr (4, [.int g_smallestSets_numbers, .int g_smallestSets_length, .int g_smallestSets_fewest, .int g_smallestSets_size]))] H := by rw [eH]; exact hP
  have hS : va_S A s.heap H locs := by rw [eH, eL]; exact hS
  suffices hG : W p l e rmX7_smallest s m ([.ref a_this, .int q1, .int q2, .int q3] : List Value).toArray below meth c H locs 0 0 (MQ below (cQi D r0 A [(a_this, .inr (7, [.ref a_slots, .ref a_script, .ref a_history, .ref a_sums, .ref a_addend, .ref a_grids, .ref a_pairings, .ref a_swellings, .ref a_smallestSets])), (a_smallestSets, .inr (4, [.int v_smallestSets_numbers, .int v_smallestSets_length, .int v_smallestSets_fewest, .int v_smallestSets_size]))]) ([.ref a_this, .int q1, .int q2, .int q3] : List Value).toArray s 0 0 A) (F0 m 0 ls []) by rw [eH, eL] at hG; exact hG
  refine lv_iload_n hx hb dX7_smallest_0 rfl (lv_at hl 1 rfl) ?_
  refine lv_iload_n hx hb dX7_smallest_1 rfl (lv_at hl 2 rfl) ?_
  obtain ⟨u1, hu1, hf⟩ := bd_some hf
  refine caSI (rest := []) (As := [.int q1, .int q2]) (wr := [(a_this, .inr (7, [.ref a_slots, .ref a_script, .ref a_history, .ref a_sums, .ref a_addend, .ref a_grids, .ref a_pairings, .ref a_swellings, .ref a_smallestSets])), (a_smallestSets, .inr (4, [.int g_smallestSets_numbers, .int g_smallestSets_length, .int g_smallestSets_fewest, .int g_smallestSets_size]))]) (wo := [(a_this, .inr (7, [.ref a_slots, .ref a_script, .ref a_history, .ref a_sums, .ref a_addend, .ref a_grids, .ref a_pairings, .ref a_swellings, .ref a_smallestSets])), (a_smallestSets, .inr (4, [.int g_smallestSets_numbers, .int g_smallestSets_length, .int g_smallestSets_fewest, .int g_smallestSets_size]))]) ⟨hx, hb, hml, hown, hts⟩ hN hP hD hS hA (cX4_isTold_ct l D cI cL cC cZ q1 q2 u1 hu1) z1 [] [0, 1] [0, 1] rfl (by decide) rfl (by decide) (by decide) rfl (by decide) rfl hl.1 rfl (Nat.le_of_ble_eq_true rfl) dX7_smallest_2 ⟨Nat.zero_le _, Nat.zero_le _⟩ (fun H locs hP hD hS => ?_)
  refine lv_if_eq (tgt := 14) hx hb dX7_smallest_5 (by decide) (fun c2 => ?_) (fun c2 => ?_)
  · have hf := br_pos c2 hf
    refine lv_iconst (v := -1) hx hb dX7_smallest_14 (by decide) ?_
    have hE : ((-1 : Int32), g_smallestSets_numbers, g_smallestSets_length, g_smallestSets_fewest, g_smallestSets_size) = (r0, v_smallestSets_numbers, v_smallestSets_length, v_smallestSets_fewest, v_smallestSets_size) := Option.some.inj hf
    simp only [Prod.mk.injEq] at hE
    obtain ⟨rfl, rfl, rfl, rfl, rfl⟩ := hE
    exact rtI hx hb hr hlk hP hD hS dX7_smallest_15
  · have hf := br_neg c2 hf
    refine lv_iload_n hx hb dX7_smallest_8 rfl (lv_at hl 3 rfl) ?_
    refine lv_bipush (v := -2) hx hb dX7_smallest_9 (by decide) ?_
    refine lv_icmp_ge (tgt := 16) hx hb dX7_smallest_11 (by decide) (fun c3 => ?_) (fun c3 => ?_)
    · have hf := br_pos c3 hf
      refine lv_aload_n hx hb dX7_smallest_16 rfl (lv_at hl 0 rfl) ?_
      refine va_get (D := D) (ci := 7) (v := .ref a_smallestSets) (C := RX7) (T := TX7) (N := 9) hx hb hts z2 hown hN.1 hP 0 rfl rfl 8 (by decide) z3 (fun _ h9 => h9) rfl dX7_smallest_17 ?_
      refine lv_iload_n hx hb dX7_smallest_20 rfl (lv_at hl 1 rfl) ?_
      refine lv_iload_n hx hb dX7_smallest_21 rfl (lv_at hl 2 rfl) ?_
      obtain ⟨u4, hu4, hf⟩ := bd_some hf
      refine caVV (rest := []) (As := [.int q1, .int q2]) (wr := [(a_this, .inr (7, [.ref a_slots, .ref a_script, .ref a_history, .ref a_sums, .ref a_addend, .ref a_grids, .ref a_pairings, .ref a_swellings, .ref a_smallestSets]))]) (wo := [(a_this, .inr (7, [.ref a_slots, .ref a_script, .ref a_history, .ref a_sums, .ref a_addend, .ref a_grids, .ref a_pairings, .ref a_swellings, .ref a_smallestSets])), (a_smallestSets, .inr (4, [.int u4.1, .int u4.2.1, .int u4.2.2.1, .int u4.2.2.2]))]) ⟨hx, hb, hml, hown, hts⟩ hN hP hD hS hA (cX4_seek_ct l D cI cL cC cZ a_smallestSets g_smallestSets_numbers g_smallestSets_length g_smallestSets_fewest g_smallestSets_size q1 q2 u4.1 u4.2.1 u4.2.2.1 u4.2.2.2 hu4) z4 1 4 rfl rfl [1] [0] [0, 1] rfl (by decide) rfl (by decide) (by decide) rfl (by decide) rfl hl.1 rfl (Nat.le_of_ble_eq_true rfl) dX7_smallest_22 ⟨Nat.zero_le _, Nat.zero_le _⟩ (fun H locs hP hD hS => ?_)
      refine lv_iload_n hx hb dX7_smallest_25 rfl (lv_at hl 3 rfl) ?_
      rcases Classical.em (q3 = (-2 : Int32)) with c5 | c5
      · have hf := br_pos c5 hf
        refine lv_lookup (tgt := 60) (off := 34) hx hb dX7_smallest_26 (by decide) (by rw [c5]; decide) (by decide) ?_
        refine lv_aload_n hx hb dX7_smallest_60 rfl (lv_at hl 0 rfl) ?_
        refine va_get (D := D) (ci := 7) (v := .ref a_smallestSets) (C := RX7) (T := TX7) (N := 9) hx hb hts z2 hown hN.1 hP 0 rfl rfl 8 (by decide) z3 (fun _ h9 => h9) rfl dX7_smallest_61 ?_
        obtain ⟨u7, hu7, hf⟩ := bd_some hf
        refine caVI (rest := []) (As := []) (wr := [(a_this, .inr (7, [.ref a_slots, .ref a_script, .ref a_history, .ref a_sums, .ref a_addend, .ref a_grids, .ref a_pairings, .ref a_swellings, .ref a_smallestSets]))]) (wo := [(a_this, .inr (7, [.ref a_slots, .ref a_script, .ref a_history, .ref a_sums, .ref a_addend, .ref a_grids, .ref a_pairings, .ref a_swellings, .ref a_smallestSets])), (a_smallestSets, .inr (4, [.int u4.1, .int u4.2.1, .int u4.2.2.1, .int u4.2.2.2]))]) ⟨hx, hb, hml, hown, hts⟩ hN hP hD hS hA (cX4_size_ct l D cI cL cC cZ a_smallestSets u4.1 u4.2.1 u4.2.2.1 u4.2.2.2 u7 hu7) z5 1 4 rfl rfl [1] [0] [0, 1] rfl (by decide) rfl (by decide) (by decide) rfl (by decide) rfl hl.1 rfl (Nat.le_of_ble_eq_true rfl) dX7_smallest_64 ⟨Nat.zero_le _, Nat.zero_le _⟩ (fun H locs hP hD hS => ?_)
        have hE : (u7, u4.1, u4.2.1, u4.2.2.1, u4.2.2.2) = (r0, v_smallestSets_numbers, v_smallestSets_length, v_smallestSets_fewest, v_smallestSets_size) := Option.some.inj hf
        simp only [Prod.mk.injEq] at hE
        obtain ⟨rfl, rfl, rfl, rfl, rfl⟩ := hE
        exact rtI hx hb hr hlk hP hD hS dX7_smallest_67
      · have hf := br_neg c5 hf
        rcases Classical.em (q3 = (-1 : Int32)) with c6 | c6
        · have hf := br_pos c6 hf
          refine lv_lookup (tgt := 52) (off := 26) hx hb dX7_smallest_26 (by decide) (by rw [c6]; decide) (by decide) ?_
          refine lv_aload_n hx hb dX7_smallest_52 rfl (lv_at hl 0 rfl) ?_
          refine va_get (D := D) (ci := 7) (v := .ref a_smallestSets) (C := RX7) (T := TX7) (N := 9) hx hb hts z2 hown hN.1 hP 0 rfl rfl 8 (by decide) z3 (fun _ h9 => h9) rfl dX7_smallest_53 ?_
          obtain ⟨u8, hu8, hf⟩ := bd_some hf
          refine caVI (rest := []) (As := []) (wr := [(a_this, .inr (7, [.ref a_slots, .ref a_script, .ref a_history, .ref a_sums, .ref a_addend, .ref a_grids, .ref a_pairings, .ref a_swellings, .ref a_smallestSets]))]) (wo := [(a_this, .inr (7, [.ref a_slots, .ref a_script, .ref a_history, .ref a_sums, .ref a_addend, .ref a_grids, .ref a_pairings, .ref a_swellings, .ref a_smallestSets])), (a_smallestSets, .inr (4, [.int u4.1, .int u4.2.1, .int u4.2.2.1, .int u4.2.2.2]))]) ⟨hx, hb, hml, hown, hts⟩ hN hP hD hS hA (cX4_fewest_ct l D cI cL cC cZ a_smallestSets u4.1 u4.2.1 u4.2.2.1 u4.2.2.2 u8 hu8) z6 1 4 rfl rfl [1] [0] [0, 1] rfl (by decide) rfl (by decide) (by decide) rfl (by decide) rfl hl.1 rfl (Nat.le_of_ble_eq_true rfl) dX7_smallest_56 ⟨Nat.zero_le _, Nat.zero_le _⟩ (fun H locs hP hD hS => ?_)
          have hE : (u8, u4.1, u4.2.1, u4.2.2.1, u4.2.2.2) = (r0, v_smallestSets_numbers, v_smallestSets_length, v_smallestSets_fewest, v_smallestSets_size) := Option.some.inj hf
          simp only [Prod.mk.injEq] at hE
          obtain ⟨rfl, rfl, rfl, rfl, rfl⟩ := hE
          exact rtI hx hb hr hlk hP hD hS dX7_smallest_59
        · have hf := br_neg c6 hf
          refine lv_lookup (tgt := 68) (off := 42) hx hb dX7_smallest_26 (by decide) (by rw [lv_osw c5 (by decide)]; rw [lv_osw c6 (by decide)]; rfl) (by decide) ?_
          refine lv_aload_n hx hb dX7_smallest_68 rfl (lv_at hl 0 rfl) ?_
          refine va_get (D := D) (ci := 7) (v := .ref a_smallestSets) (C := RX7) (T := TX7) (N := 9) hx hb hts z2 hown hN.1 hP 0 rfl rfl 8 (by decide) z3 (fun _ h9 => h9) rfl dX7_smallest_69 ?_
          refine lv_iload_n hx hb dX7_smallest_72 rfl (lv_at hl 3 rfl) ?_
          obtain ⟨u9, hu9, hf⟩ := bd_some hf
          refine caVI (rest := []) (As := [.int q3]) (wr := [(a_this, .inr (7, [.ref a_slots, .ref a_script, .ref a_history, .ref a_sums, .ref a_addend, .ref a_grids, .ref a_pairings, .ref a_swellings, .ref a_smallestSets]))]) (wo := [(a_this, .inr (7, [.ref a_slots, .ref a_script, .ref a_history, .ref a_sums, .ref a_addend, .ref a_grids, .ref a_pairings, .ref a_swellings, .ref a_smallestSets])), (a_smallestSets, .inr (4, [.int u4.1, .int u4.2.1, .int u4.2.2.1, .int u4.2.2.2]))]) ⟨hx, hb, hml, hown, hts⟩ hN hP hD hS hA (cX4_setAt_ct l D cI cL cC cZ a_smallestSets u4.1 u4.2.1 u4.2.2.1 u4.2.2.2 q3 u9 hu9) z7 1 4 rfl rfl [1] [0] [0, 1] rfl (by decide) rfl (by decide) (by decide) rfl (by decide) rfl hl.1 rfl (Nat.le_of_ble_eq_true rfl) dX7_smallest_73 ⟨Nat.zero_le _, Nat.zero_le _⟩ (fun H locs hP hD hS => ?_)
          have hE : (u9, u4.1, u4.2.1, u4.2.2.1, u4.2.2.2) = (r0, v_smallestSets_numbers, v_smallestSets_length, v_smallestSets_fewest, v_smallestSets_size) := Option.some.inj hf
          simp only [Prod.mk.injEq] at hE
          obtain ⟨rfl, rfl, rfl, rfl, rfl⟩ := hE
          exact rtI hx hb hr hlk hP hD hS dX7_smallest_76
    · have hf := br_neg c3 hf
      refine lv_iconst (v := -1) hx hb dX7_smallest_14 (by decide) ?_
      have hE : ((-1 : Int32), g_smallestSets_numbers, g_smallestSets_length, g_smallestSets_fewest, g_smallestSets_size) = (r0, v_smallestSets_numbers, v_smallestSets_length, v_smallestSets_fewest, v_smallestSets_size) := Option.some.inj hf
      simp only [Prod.mk.injEq] at hE
      obtain ⟨rfl, rfl, rfl, rfl, rfl⟩ := hE
      exact rtI hx hb hr hlk hP hD hS dX7_smallest_15
abbrev rmX7_count : Room := { frames := 1, cells := 0, slots := 0, locals := 22 }
noncomputable def fX7_count (q1 : Int32) (g_slots : Nat → Int64) (g_script_length : Int32) (g_history_size : Int32) : Option (Int32) := bd (fX7_isSlot q1) (fun u1 => br (u1 = 0) (br (q1 = (4 : Int32)) (bd (fX1_size g_history_size) (fun u6 => some (u6))) (br (q1 = (5 : Int32)) (bd (fX3_length g_script_length) (fun u7 => some (u7))) (br (q1 = (6 : Int32)) (bd (fX7_slotsInUse g_slots) (fun u8 => some (u8))) (some ((-1 : Int32)))))) (gd (¬ q1 < 0 ∧ q1.toNatClampNeg < 4) (bd (fJ13_bitCount_95d88 (g_slots q1.toNatClampNeg)) (fun u10 => some (u10)))))
set_option maxHeartbeats 4000000 in
set_option maxRecDepth 100000 in
theorem cX7_count_ct (l : Launch) (D : va_G) (cI cL cC cZ : ClassId) (a_this a_slots a_script a_history a_sums a_addend a_grids a_pairings a_swellings a_smallestSets a_script_letters a_script_sets a_history_changed a_history_before : Nat) (g_slots : Nat → Int64) (g_script_length : Int32) (g_script_numbers : Int64) (g_history_size : Int32) (q1 : Int32) (r0 : Int32) (hf : fX7_count q1 g_slots g_script_length g_history_size = some r0) : CtI l yX7_count wsX7_count rmX7_count D (tyz cI cL cC cZ) [.ref a_this, .int q1] [(a_this, .inr (7, [.ref a_slots, .ref a_script, .ref a_history, .ref a_sums, .ref a_addend, .ref a_grids, .ref a_pairings, .ref a_swellings, .ref a_smallestSets])), (a_slots, .inl (cL, 4, .inr (.inl g_slots))), (a_script, .inr (3, [.ref a_script_letters, .ref a_script_sets, .int g_script_length, .long g_script_numbers])), (a_history, .inr (1, [.ref a_history_changed, .ref a_history_before, .int g_history_size]))] [(a_this, .inr (7, [.ref a_slots, .ref a_script, .ref a_history, .ref a_sums, .ref a_addend, .ref a_grids, .ref a_pairings, .ref a_swellings, .ref a_smallestSets])), (a_slots, .inl (cL, 4, .inr (.inl g_slots))), (a_script, .inr (3, [.ref a_script_letters, .ref a_script_sets, .int g_script_length, .long g_script_numbers])), (a_history, .inr (1, [.ref a_history_changed, .ref a_history_before, .int g_history_size]))] r0 := by
  refine CtI.make (cc := cX7_count) (maxL := 2) (ty := .int) (by decide) rfl (Nat.le_of_ble_eq_true rfl) ?_
  intro p e s m below meth c A ls C0 hN hA hP hD hl
  obtain ⟨hx, hb, hr, hml, hown, hts, hlk⟩ := id C0
  have hown : s.vm.findClass RX7 = some m.cls := hown
  have hS : va_S A s.heap s.heap [] := va_S.rf
  have hP : va_P D vwCl [(a_this, .inr (7, [.ref a_slots, .ref a_script, .ref a_history, .ref a_sums, .ref a_addend, .ref a_grids, .ref a_pairings, .ref a_swellings, .ref a_smallestSets])), (a_slots, .inl (cL, 4, .inr (.inl g_slots))), (a_script, .inr (3, [.ref a_script_letters, .ref a_script_sets, .int g_script_length, .long g_script_numbers])), (a_history, .inr (1, [.ref a_history_changed, .ref a_history_before, .int g_history_size]))] s.heap := hP
  have hD : va_D A [(a_this, .inr (7, [.ref a_slots, .ref a_script, .ref a_history, .ref a_sums, .ref a_addend, .ref a_grids, .ref a_pairings, .ref a_swellings, .ref a_smallestSets])), (a_slots, .inl (cL, 4, .inr (.inl g_slots))), (a_script, .inr (3, [.ref a_script_letters, .ref a_script_sets, .int g_script_length, .long g_script_numbers])), (a_history, .inr (1, [.ref a_history_changed, .ref a_history_before, .int g_history_size]))] := hD
  have hl : lv_has ls 2 [(0, .ref a_this), (1, .int q1)] := hl
  have z1 := va_cwS (R := rmX7_count) (rm := rmX7_isSlot) (mc := 0) (ms := 0) 1 hts gX7_count_X7_isSlot rfl rfl rfl (by decide +kernel) ⟨Nat.le_of_ble_eq_true rfl, Nat.le_of_ble_eq_true rfl⟩
  have z2 : ∀ w ∈ u_ws RX7 TX7 9, w ∈ wsX7_count := by decide +kernel
  have z3 := hts (.fieldLink RX7 23 "LittleSums" "history" "LLittleSums$History;") (by decide +kernel)
  have z4 := cwV (R := rmX7_count) (rm := rmX1_size) (mc := 0) (ms := 0) 0 hts gX7_count_X1_size rfl rfl rfl (by decide +kernel) ⟨Nat.le_of_ble_eq_true rfl, Nat.le_of_ble_eq_true rfl⟩
  have z5 := hts (.fieldLink RX7 16 "LittleSums" "script" "LLittleSums$Script;") (by decide +kernel)
  have z6 := cwV (R := rmX7_count) (rm := rmX3_length) (mc := 0) (ms := 0) 0 hts gX7_count_X3_length rfl rfl rfl (by decide +kernel) ⟨Nat.le_of_ble_eq_true rfl, Nat.le_of_ble_eq_true rfl⟩
  have z7 := cwV (R := rmX7_count) (rm := rmX7_slotsInUse) (mc := 0) (ms := 0) 0 hts gX7_count_X7_slotsInUse rfl rfl rfl (by decide +kernel) ⟨Nat.le_of_ble_eq_true rfl, Nat.le_of_ble_eq_true rfl⟩
  have z8 := hts (.fieldLink RX7 9 "LittleSums" "slots" "[J") (by decide +kernel)
  have z9 := va_cwS (R := rmX7_count) (rm := rmJ13_bitCount_95d88) (mc := 0) (ms := 0) 1 hts gX7_count_J13_bitCount_95d88 rfl rfl rfl (by decide +kernel) ⟨Nat.le_of_ble_eq_true rfl, Nat.le_of_ble_eq_true rfl⟩
  unfold fX7_count at hf
  obtain ⟨H, eH⟩ : ∃ z, z = s.heap := ⟨_, rfl⟩
  obtain ⟨locs, eL⟩ : ∃ z : List Loc, z = [] := ⟨_, rfl⟩
  have hP : va_P D vwCl [(a_this, .inr (7, [.ref a_slots, .ref a_script, .ref a_history, .ref a_sums, .ref a_addend, .ref a_grids, .ref a_pairings, .ref a_swellings, .ref a_smallestSets])), (a_slots, .inl (cL, 4, .inr (.inl g_slots))), (a_script, .inr (3, [.ref a_script_letters, .ref a_script_sets, .int g_script_length, .long g_script_numbers])), (a_history, .inr (1, [.ref a_history_changed, .ref a_history_before, .int g_history_size]))] H := by rw [eH]; exact hP
  have hS : va_S A s.heap H locs := by rw [eH, eL]; exact hS
  suffices hG : W p l e rmX7_count s m ([.ref a_this, .int q1] : List Value).toArray below meth c H locs 0 0 (MQ below (cQi D r0 A [(a_this, .inr (7, [.ref a_slots, .ref a_script, .ref a_history, .ref a_sums, .ref a_addend, .ref a_grids, .ref a_pairings, .ref a_swellings, .ref a_smallestSets])), (a_slots, .inl (cL, 4, .inr (.inl g_slots))), (a_script, .inr (3, [.ref a_script_letters, .ref a_script_sets, .int g_script_length, .long g_script_numbers])), (a_history, .inr (1, [.ref a_history_changed, .ref a_history_before, .int g_history_size]))]) ([.ref a_this, .int q1] : List Value).toArray s 0 0 A) (F0 m 0 ls []) by rw [eH, eL] at hG; exact hG
  refine lv_iload_n hx hb dX7_count_0 rfl (lv_at hl 1 rfl) ?_
  obtain ⟨u1, hu1, hf⟩ := bd_some hf
  refine caSI (rest := []) (As := [.int q1]) (wr := [(a_this, .inr (7, [.ref a_slots, .ref a_script, .ref a_history, .ref a_sums, .ref a_addend, .ref a_grids, .ref a_pairings, .ref a_swellings, .ref a_smallestSets])), (a_slots, .inl (cL, 4, .inr (.inl g_slots))), (a_script, .inr (3, [.ref a_script_letters, .ref a_script_sets, .int g_script_length, .long g_script_numbers])), (a_history, .inr (1, [.ref a_history_changed, .ref a_history_before, .int g_history_size]))]) (wo := [(a_this, .inr (7, [.ref a_slots, .ref a_script, .ref a_history, .ref a_sums, .ref a_addend, .ref a_grids, .ref a_pairings, .ref a_swellings, .ref a_smallestSets])), (a_slots, .inl (cL, 4, .inr (.inl g_slots))), (a_script, .inr (3, [.ref a_script_letters, .ref a_script_sets, .int g_script_length, .long g_script_numbers])), (a_history, .inr (1, [.ref a_history_changed, .ref a_history_before, .int g_history_size]))]) ⟨hx, hb, hml, hown, hts⟩ hN hP hD hS hA (cX7_isSlot_ct l D cI cL cC cZ q1 u1 hu1) z1 [] [0, 1, 2, 3] [0, 1, 2, 3] rfl (by decide) rfl (by decide) (by decide) rfl (by decide) rfl hl.1 rfl (Nat.le_of_ble_eq_true rfl) dX7_count_1 ⟨Nat.zero_le _, Nat.zero_le _⟩ (fun H locs hP hD hS => ?_)
  refine lv_if_eq (tgt := 17) hx hb dX7_count_4 (by decide) (fun c2 => ?_) (fun c2 => ?_)
  · have hf := br_pos c2 hf
    refine lv_iload_n hx hb dX7_count_17 rfl (lv_at hl 1 rfl) ?_
    rcases Classical.em (q1 = (4 : Int32)) with c3 | c3
    · have hf := br_pos c3 hf
      refine lv_tableIn (tgt := 44) (off := 26) hx hb dX7_count_18 (by rw [c3]; decide) (by rw [c3]; decide) (by rw [c3]; decide) (by decide) ?_
      refine lv_aload_n hx hb dX7_count_44 rfl (lv_at hl 0 rfl) ?_
      refine va_get (D := D) (ci := 7) (v := .ref a_history) (C := RX7) (T := TX7) (N := 9) hx hb hts z2 hown hN.1 hP 0 rfl rfl 2 (by decide) z3 (fun _ h9 => h9) rfl dX7_count_45 ?_
      obtain ⟨u6, hu6, hf⟩ := bd_some hf
      refine caVI (rest := []) (As := []) (wr := [(a_this, .inr (7, [.ref a_slots, .ref a_script, .ref a_history, .ref a_sums, .ref a_addend, .ref a_grids, .ref a_pairings, .ref a_swellings, .ref a_smallestSets])), (a_slots, .inl (cL, 4, .inr (.inl g_slots))), (a_script, .inr (3, [.ref a_script_letters, .ref a_script_sets, .int g_script_length, .long g_script_numbers]))]) (wo := [(a_this, .inr (7, [.ref a_slots, .ref a_script, .ref a_history, .ref a_sums, .ref a_addend, .ref a_grids, .ref a_pairings, .ref a_swellings, .ref a_smallestSets])), (a_slots, .inl (cL, 4, .inr (.inl g_slots))), (a_script, .inr (3, [.ref a_script_letters, .ref a_script_sets, .int g_script_length, .long g_script_numbers])), (a_history, .inr (1, [.ref a_history_changed, .ref a_history_before, .int g_history_size]))]) ⟨hx, hb, hml, hown, hts⟩ hN hP hD hS hA (cX1_size_ct l D cI cL cC cZ a_history a_history_changed a_history_before g_history_size u6 hu6) z4 3 1 rfl rfl [3] [0, 1, 2] [0, 1, 2, 3] rfl (by decide) rfl (by decide) (by decide) rfl (by decide) rfl hl.1 rfl (Nat.le_of_ble_eq_true rfl) dX7_count_48 ⟨Nat.zero_le _, Nat.zero_le _⟩ (fun H locs hP hD hS => ?_)
      have hE : u6 = r0 := Option.some.inj hf
      subst hE
      exact rtI hx hb hr hlk hP hD hS dX7_count_51
    · have hf := br_neg c3 hf
      rcases Classical.em (q1 = (5 : Int32)) with c4 | c4
      · have hf := br_pos c4 hf
        refine lv_tableIn (tgt := 52) (off := 34) hx hb dX7_count_18 (by rw [c4]; decide) (by rw [c4]; decide) (by rw [c4]; decide) (by decide) ?_
        refine lv_aload_n hx hb dX7_count_52 rfl (lv_at hl 0 rfl) ?_
        refine va_get (D := D) (ci := 7) (v := .ref a_script) (C := RX7) (T := TX7) (N := 9) hx hb hts z2 hown hN.1 hP 0 rfl rfl 1 (by decide) z5 (fun _ h9 => h9) rfl dX7_count_53 ?_
        obtain ⟨u7, hu7, hf⟩ := bd_some hf
        refine caVI (rest := []) (As := []) (wr := [(a_this, .inr (7, [.ref a_slots, .ref a_script, .ref a_history, .ref a_sums, .ref a_addend, .ref a_grids, .ref a_pairings, .ref a_swellings, .ref a_smallestSets])), (a_slots, .inl (cL, 4, .inr (.inl g_slots))), (a_history, .inr (1, [.ref a_history_changed, .ref a_history_before, .int g_history_size]))]) (wo := [(a_this, .inr (7, [.ref a_slots, .ref a_script, .ref a_history, .ref a_sums, .ref a_addend, .ref a_grids, .ref a_pairings, .ref a_swellings, .ref a_smallestSets])), (a_slots, .inl (cL, 4, .inr (.inl g_slots))), (a_script, .inr (3, [.ref a_script_letters, .ref a_script_sets, .int g_script_length, .long g_script_numbers])), (a_history, .inr (1, [.ref a_history_changed, .ref a_history_before, .int g_history_size]))]) ⟨hx, hb, hml, hown, hts⟩ hN hP hD hS hA (cX3_length_ct l D cI cL cC cZ a_script a_script_letters a_script_sets g_script_length g_script_numbers u7 hu7) z6 2 3 rfl rfl [2] [0, 1, 3] [0, 1, 3, 2] rfl (by decide) rfl (by decide) (by decide) rfl (by decide) rfl hl.1 rfl (Nat.le_of_ble_eq_true rfl) dX7_count_56 ⟨Nat.zero_le _, Nat.zero_le _⟩ (fun H locs hP hD hS => ?_)
        have hE : u7 = r0 := Option.some.inj hf
        subst hE
        exact rtI hx hb hr hlk hP hD hS dX7_count_59
      · have hf := br_neg c4 hf
        rcases Classical.em (q1 = (6 : Int32)) with c5 | c5
        · have hf := br_pos c5 hf
          refine lv_tableIn (tgt := 60) (off := 42) hx hb dX7_count_18 (by rw [c5]; decide) (by rw [c5]; decide) (by rw [c5]; decide) (by decide) ?_
          refine lv_aload_n hx hb dX7_count_60 rfl (lv_at hl 0 rfl) ?_
          obtain ⟨u8, hu8, hf⟩ := bd_some hf
          refine caVI (rest := []) (As := []) (wr := [(a_script, .inr (3, [.ref a_script_letters, .ref a_script_sets, .int g_script_length, .long g_script_numbers])), (a_history, .inr (1, [.ref a_history_changed, .ref a_history_before, .int g_history_size]))]) (wo := [(a_this, .inr (7, [.ref a_slots, .ref a_script, .ref a_history, .ref a_sums, .ref a_addend, .ref a_grids, .ref a_pairings, .ref a_swellings, .ref a_smallestSets])), (a_slots, .inl (cL, 4, .inr (.inl g_slots))), (a_script, .inr (3, [.ref a_script_letters, .ref a_script_sets, .int g_script_length, .long g_script_numbers])), (a_history, .inr (1, [.ref a_history_changed, .ref a_history_before, .int g_history_size]))]) ⟨hx, hb, hml, hown, hts⟩ hN hP hD hS hA (cX7_slotsInUse_ct l D cI cL cC cZ a_this a_slots a_script a_history a_sums a_addend a_grids a_pairings a_swellings a_smallestSets g_slots u8 hu8) z7 0 7 rfl rfl [0, 1] [2, 3] [2, 3, 0, 1] rfl (by decide) rfl (by decide) (by decide) rfl (by decide) rfl hl.1 rfl (Nat.le_of_ble_eq_true rfl) dX7_count_61 ⟨Nat.zero_le _, Nat.zero_le _⟩ (fun H locs hP hD hS => ?_)
          have hE : u8 = r0 := Option.some.inj hf
          subst hE
          exact rtI hx hb hr hlk hP hD hS dX7_count_64
        · have hf := br_neg c5 hf
          have nc3 := lv_neT (a := 4) c3 (by decide)
          have nc4 := lv_neT (a := 5) c4 (by decide)
          have nc5 := lv_neT (a := 6) c5 (by decide)
          refine lv_tableOut (tgt := 65) hx hb dX7_count_18 (by omega) (by decide) ?_
          refine lv_iconst (v := -1) hx hb dX7_count_65 (by decide) ?_
          have hE : (-1 : Int32) = r0 := Option.some.inj hf
          subst hE
          exact rtI hx hb hr hlk hP hD hS dX7_count_66
  · have hf := br_neg c2 hf
    refine lv_aload_n hx hb dX7_count_7 rfl (lv_at hl 0 rfl) ?_
    refine va_get (D := D) (ci := 7) (v := .ref a_slots) (C := RX7) (T := TX7) (N := 9) hx hb hts z2 hown hN.1 hP 0 rfl rfl 0 (by decide) z8 (fun _ h9 => h9) rfl dX7_count_8 ?_
    refine lv_iload_n hx hb dX7_count_11 rfl (lv_at hl 1 rfl) ?_
    obtain ⟨c9, hf⟩ := gd_some hf
    refine va_lald hx hb hN.1 hP 1 1 rfl rfl (ix_in c9) dX7_count_12 ?_
    obtain ⟨u10, hu10, hf⟩ := bd_some hf
    refine caSI (rest := []) (As := [.long (g_slots q1.toNatClampNeg)]) (wr := [(a_this, .inr (7, [.ref a_slots, .ref a_script, .ref a_history, .ref a_sums, .ref a_addend, .ref a_grids, .ref a_pairings, .ref a_swellings, .ref a_smallestSets])), (a_slots, .inl (cL, 4, .inr (.inl g_slots))), (a_script, .inr (3, [.ref a_script_letters, .ref a_script_sets, .int g_script_length, .long g_script_numbers])), (a_history, .inr (1, [.ref a_history_changed, .ref a_history_before, .int g_history_size]))]) (wo := [(a_this, .inr (7, [.ref a_slots, .ref a_script, .ref a_history, .ref a_sums, .ref a_addend, .ref a_grids, .ref a_pairings, .ref a_swellings, .ref a_smallestSets])), (a_slots, .inl (cL, 4, .inr (.inl g_slots))), (a_script, .inr (3, [.ref a_script_letters, .ref a_script_sets, .int g_script_length, .long g_script_numbers])), (a_history, .inr (1, [.ref a_history_changed, .ref a_history_before, .int g_history_size]))]) ⟨hx, hb, hml, hown, hts⟩ hN hP hD hS hA (cJ13_bitCount_95d88_ct l D cI cL cC cZ (g_slots q1.toNatClampNeg) u10 hu10) z9 [] [0, 1, 2, 3] [0, 1, 2, 3] rfl (by decide) rfl (by decide) (by decide) rfl (by decide) rfl hl.1 rfl (Nat.le_of_ble_eq_true rfl) dX7_count_13 ⟨Nat.zero_le _, Nat.zero_le _⟩ (fun H locs hP hD hS => ?_)
    have hE : u10 = r0 := Option.some.inj hf
    subst hE
    exact rtI hx hb hr hlk hP hD hS dX7_count_16
