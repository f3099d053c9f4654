abbrev rmX0_answer : Room := { frames := 0, cells := 0, slots := 0, locals := 0 }
noncomputable def fX0_answer (q1 : Int32) (g_base : Int32) (g_firstStep : Int32) (g_secondStep : Int32) (g_firstLength : Int32) (g_secondLength : Int32) : Option (Int32) := br (q1 = (0 : Int32)) (some (g_base)) (br (q1 = (1 : Int32)) (some (g_firstStep)) (br (q1 = (2 : Int32)) (some (g_secondStep)) (br (q1 = (3 : Int32)) (some (g_firstLength)) (some (g_secondLength)))))
set_option maxHeartbeats 4000000 in
set_option maxRecDepth 100000 in
theorem cX0_answer_ct (l : Launch) (D : va_G) (cI cL cC cZ : ClassId) (a_this a_factors : Nat) (g_sought : Int64) (g_found : Int32) (g_fromBase : Int64) (g_base : Int32) (g_span : Int32) (g_widest : Int32) (g_firstStep : Int32) (g_secondStep : Int32) (g_firstLength : Int32) (g_secondLength : Int32) (q1 : Int32) (r0 : Int32) (hf : fX0_answer q1 g_base g_firstStep g_secondStep g_firstLength g_secondLength = some r0) : CtI l yX0_answer wsX0_answer rmX0_answer D (tyz cI cL cC cZ) [.ref a_this, .int q1] [(a_this, .inr (0, [.ref a_factors, .long g_sought, .int g_found, .long g_fromBase, .int g_base, .int g_span, .int g_widest, .int g_firstStep, .int g_secondStep, .int g_firstLength, .int g_secondLength]))] [(a_this, .inr (0, [.ref a_factors, .long g_sought, .int g_found, .long g_fromBase, .int g_base, .int g_span, .int g_widest, .int g_firstStep, .int g_secondStep, .int g_firstLength, .int g_secondLength]))] r0 := by
  refine CtI.make (cc := cX0_answer) (maxL := 2) (ty := .int) (by decide) rfl (Nat.le_of_ble_eq_true rfl) ?_
  intro p e s m below meth c A ls C0 hN hA hP hD hl
  obtain ⟨hx, hb, hr, hml, hown, hts, hlk⟩ := id C0
  have hown : s.vm.findClass RX0 = some m.cls := hown
  have hS : va_S A s.heap s.heap [] := va_S.rf
  have hP : va_P D vwCl [(a_this, .inr (0, [.ref a_factors, .long g_sought, .int g_found, .long g_fromBase, .int g_base, .int g_span, .int g_widest, .int g_firstStep, .int g_secondStep, .int g_firstLength, .int g_secondLength]))] s.heap := hP
  have hD : va_D A [(a_this, .inr (0, [.ref a_factors, .long g_sought, .int g_found, .long g_fromBase, .int g_base, .int g_span, .int g_widest, .int g_firstStep, .int g_secondStep, .int g_firstLength, .int g_secondLength]))] := hD
  have hl : lv_has ls 2 [(0, .ref a_this), (1, .int q1)] := hl
  have z1 : ∀ w ∈ u_ws RX0 TX0 11, w ∈ wsX0_answer := by decide +kernel
  have z2 := hts (.fieldLink RX0 15 "LittleSums$GridSearch" "base" "I") (by decide +kernel)
  have z3 := hts (.fieldLink RX0 19 "LittleSums$GridSearch" "firstStep" "I") (by decide +kernel)
  have z4 := hts (.fieldLink RX0 22 "LittleSums$GridSearch" "secondStep" "I") (by decide +kernel)
  have z5 := hts (.fieldLink RX0 25 "LittleSums$GridSearch" "firstLength" "I") (by decide +kernel)
  have z6 := hts (.fieldLink RX0 28 "LittleSums$GridSearch" "secondLength" "I") (by decide +kernel)
  unfold fX0_answer at hf
  obtain ⟨H, eH⟩ : ∃ z, z = s.heap := ⟨_, rfl⟩
  obtain ⟨locs, eL⟩ : ∃ z : List Loc, z = [] := ⟨_, rfl⟩
  have hP : va_P D vwCl [(a_this, .inr (0, [.ref a_factors, .long g_sought, .int g_found, .long g_fromBase, .int g_base, .int g_span, .int g_widest, .int g_firstStep, .int g_secondStep, .int g_firstLength, .int g_secondLength]))] H := by rw [eH]; exact hP
  have hS : va_S A s.heap H locs := by rw [eH, eL]; exact hS
  suffices hG : W p l e rmX0_answer s m ([.ref a_this, .int q1] : List Value).toArray below meth c H locs 0 0 (MQ below (cQi D r0 A [(a_this, .inr (0, [.ref a_factors, .long g_sought, .int g_found, .long g_fromBase, .int g_base, .int g_span, .int g_widest, .int g_firstStep, .int g_secondStep, .int g_firstLength, .int g_secondLength]))]) ([.ref a_this, .int q1] : List Value).toArray s 0 0 A) (F0 m 0 ls []) by rw [eH, eL] at hG; exact hG
  refine lv_iload_n hx hb dX0_answer_0 rfl (lv_at hl 1 rfl) ?_
  rcases Classical.em (q1 = (0 : Int32)) with c1 | c1
  · have hf := br_pos c1 hf
    refine lv_tableIn (tgt := 32) (off := 31) hx hb dX0_answer_1 (by rw [c1]; decide) (by rw [c1]; decide) (by rw [c1]; decide) (by decide) ?_
    refine lv_aload_n hx hb dX0_answer_32 rfl (lv_at hl 0 rfl) ?_
    refine va_get (D := D) (ci := 0) (v := .int g_base) (C := RX0) (T := TX0) (N := 11) hx hb hts z1 hown hN.1 hP 0 rfl rfl 4 (by decide) z2 (fun _ h9 => h9) rfl dX0_answer_33 ?_
    have hE : g_base = r0 := Option.some.inj hf
    subst hE
    exact rtI hx hb hr hlk hP hD hS dX0_answer_36
  · have hf := br_neg c1 hf
    rcases Classical.em (q1 = (1 : Int32)) with c2 | c2
    · have hf := br_pos c2 hf
      refine lv_tableIn (tgt := 37) (off := 36) hx hb dX0_answer_1 (by rw [c2]; decide) (by rw [c2]; decide) (by rw [c2]; decide) (by decide) ?_
      refine lv_aload_n hx hb dX0_answer_37 rfl (lv_at hl 0 rfl) ?_
      refine va_get (D := D) (ci := 0) (v := .int g_firstStep) (C := RX0) (T := TX0) (N := 11) hx hb hts z1 hown hN.1 hP 0 rfl rfl 7 (by decide) z3 (fun _ h9 => h9) rfl dX0_answer_38 ?_
      have hE : g_firstStep = r0 := Option.some.inj hf
      subst hE
      exact rtI hx hb hr hlk hP hD hS dX0_answer_41
    · have hf := br_neg c2 hf
      rcases Classical.em (q1 = (2 : Int32)) with c3 | c3
      · have hf := br_pos c3 hf
        refine lv_tableIn (tgt := 42) (off := 41) hx hb dX0_answer_1 (by rw [c3]; decide) (by rw [c3]; decide) (by rw [c3]; decide) (by decide) ?_
        refine lv_aload_n hx hb dX0_answer_42 rfl (lv_at hl 0 rfl) ?_
        refine va_get (D := D) (ci := 0) (v := .int g_secondStep) (C := RX0) (T := TX0) (N := 11) hx hb hts z1 hown hN.1 hP 0 rfl rfl 8 (by decide) z4 (fun _ h9 => h9) rfl dX0_answer_43 ?_
        have hE : g_secondStep = r0 := Option.some.inj hf
        subst hE
        exact rtI hx hb hr hlk hP hD hS dX0_answer_46
      · have hf := br_neg c3 hf
        rcases Classical.em (q1 = (3 : Int32)) with c4 | c4
        · have hf := br_pos c4 hf
          refine lv_tableIn (tgt := 47) (off := 46) hx hb dX0_answer_1 (by rw [c4]; decide) (by rw [c4]; decide) (by rw [c4]; decide) (by decide) ?_
          refine lv_aload_n hx hb dX0_answer_47 rfl (lv_at hl 0 rfl) ?_
          refine va_get (D := D) (ci := 0) (v := .int g_firstLength) (C := RX0) (T := TX0) (N := 11) hx hb hts z1 hown hN.1 hP 0 rfl rfl 9 (by decide) z5 (fun _ h9 => h9) rfl dX0_answer_48 ?_
          have hE : g_firstLength = r0 := Option.some.inj hf
          subst hE
          exact rtI hx hb hr hlk hP hD hS dX0_answer_51
        · have hf := br_neg c4 hf
          have nc1 := lv_neT (a := 0) c1 (by decide)
          have nc2 := lv_neT (a := 1) c2 (by decide)
          have nc3 := lv_neT (a := 2) c3 (by decide)
          have nc4 := lv_neT (a := 3) c4 (by decide)
          refine lv_tableOut (tgt := 52) hx hb dX0_answer_1 (by omega) (by decide) ?_
          refine lv_aload_n hx hb dX0_answer_52 rfl (lv_at hl 0 rfl) ?_
          refine va_get (D := D) (ci := 0) (v := .int g_secondLength) (C := RX0) (T := TX0) (N := 11) hx hb hts z1 hown hN.1 hP 0 rfl rfl 10 (by decide) z6 (fun _ h9 => h9) rfl dX0_answer_53 ?_
          have hE : g_secondLength = r0 := Option.some.inj hf
          subst hE
          exact rtI hx hb hr hlk hP hD hS dX0_answer_56
abbrev rmX7_leastOf : Room := { frames := 2, cells := 0, slots := 0, locals := 43 }
noncomputable def fX7_leastOf (q0 : Int64) : Option (Int32) := bd (fJ13_numberOfTrailingZeros_95d88 q0) (fun u1 => some (u1))
set_option maxHeartbeats 4000000 in
set_option maxRecDepth 100000 in
theorem cX7_leastOf_ct (l : Launch) (D : va_G) (cI cL cC cZ : ClassId) (q0 : Int64) (r0 : Int32) (hf : fX7_leastOf q0 = some r0) : CtI l yX7_leastOf wsX7_leastOf rmX7_leastOf D (tyz cI cL cC cZ) [.long q0] [] [] r0 := by
  refine CtI.make (cc := cX7_leastOf) (maxL := 2) (ty := .int) (by decide) rfl (Nat.le_of_ble_eq_true rfl) ?_
  intro p e s m below meth c A ls C0 hN hA hP hD hl
  obtain ⟨hx, hb, hr, hml, hown, hts, hlk⟩ := id C0
  have hown : s.vm.findClass RX7 = some m.cls := hown
  have hS : va_S A s.heap s.heap [] := va_S.rf
  have hP : va_P D vwCl [] s.heap := hP
  have hD : va_D A [] := hD
  have hl : lv_has ls 2 [(0, .long q0)] := hl
  have z1 := va_cwS (R := rmX7_leastOf) (rm := rmJ13_numberOfTrailingZeros_95d88) (mc := 0) (ms := 0) 1 hts gX7_leastOf_J13_numberOfTrailingZeros_95d88 rfl rfl rfl (by decide +kernel) ⟨Nat.le_of_ble_eq_true rfl, Nat.le_of_ble_eq_true rfl⟩
  unfold fX7_leastOf at hf
  obtain ⟨H, eH⟩ : ∃ z, z = s.heap := ⟨_, rfl⟩
  obtain ⟨locs, eL⟩ : ∃ z : List Loc, z = [] := ⟨_, rfl⟩
  have hP : va_P D vwCl [] H := by rw [eH]; exact hP
  have hS : va_S A s.heap H locs := by rw [eH, eL]; exact hS
  suffices hG : W p l e rmX7_leastOf s m ([.long q0] : List Value).toArray below meth c H locs 0 0 (MQ below (cQi D r0 A []) ([.long q0] : List Value).toArray s 0 0 A) (F0 m 0 ls []) by rw [eH, eL] at hG; exact hG
  refine lv_lload_n hx hb dX7_leastOf_0 rfl (lv_at hl 0 rfl) ?_
  obtain ⟨u1, hu1, hf⟩ := bd_some hf
  refine caSI (rest := []) (As := [.long q0]) (wr := []) (wo := []) ⟨hx, hb, hml, hown, hts⟩ hN hP hD hS hA (cJ13_numberOfTrailingZeros_95d88_ct l D cI cL cC cZ q0 u1 hu1) z1 [] [] [] rfl (by decide) rfl (by decide) (by decide) rfl (by decide) rfl hl.1 rfl (Nat.le_of_ble_eq_true rfl) dX7_leastOf_1 ⟨Nat.zero_le _, Nat.zero_le _⟩ (fun H locs hP hD hS => ?_)
  have hE : u1 = r0 := Option.some.inj hf
  subst hE
  exact rtI hx hb hr hlk hP hD hS dX7_leastOf_4
abbrev rmX7_greatestOf : Room := { frames := 2, cells := 0, slots := 0, locals := 43 }
noncomputable def fX7_greatestOf (q0 : Int64) : Option (Int32) := bd (fJ13_numberOfLeadingZeros_95d88 q0) (fun u1 => some ((63 : Int32) - u1))
set_option maxHeartbeats 4000000 in
set_option maxRecDepth 100000 in
theorem cX7_greatestOf_ct (l : Launch) (D : va_G) (cI cL cC cZ : ClassId) (q0 : Int64) (r0 : Int32) (hf : fX7_greatestOf q0 = some r0) : CtI l yX7_greatestOf wsX7_greatestOf rmX7_greatestOf D (tyz cI cL cC cZ) [.long q0] [] [] r0 := by
  refine CtI.make (cc := cX7_greatestOf) (maxL := 2) (ty := .int) (by decide) rfl (Nat.le_of_ble_eq_true rfl) ?_
  intro p e s m below meth c A ls C0 hN hA hP hD hl
  obtain ⟨hx, hb, hr, hml, hown, hts, hlk⟩ := id C0
  have hown : s.vm.findClass RX7 = some m.cls := hown
  have hS : va_S A s.heap s.heap [] := va_S.rf
  have hP : va_P D vwCl [] s.heap := hP
  have hD : va_D A [] := hD
  have hl : lv_has ls 2 [(0, .long q0)] := hl
  have z1 := va_cwS (R := rmX7_greatestOf) (rm := rmJ13_numberOfLeadingZeros_95d88) (mc := 0) (ms := 0) 1 hts gX7_greatestOf_J13_numberOfLeadingZeros_95d88 rfl rfl rfl (by decide +kernel) ⟨Nat.le_of_ble_eq_true rfl, Nat.le_of_ble_eq_true rfl⟩
  unfold fX7_greatestOf at hf
  obtain ⟨H, eH⟩ : ∃ z, z = s.heap := ⟨_, rfl⟩
  obtain ⟨locs, eL⟩ : ∃ z : List Loc, z = [] := ⟨_, rfl⟩
  have hP : va_P D vwCl [] H := by rw [eH]; exact hP
  have hS : va_S A s.heap H locs := by rw [eH, eL]; exact hS
  suffices hG : W p l e rmX7_greatestOf s m ([.long q0] : List Value).toArray below meth c H locs 0 0 (MQ below (cQi D r0 A []) ([.long q0] : List Value).toArray s 0 0 A) (F0 m 0 ls []) by rw [eH, eL] at hG; exact hG
  refine lv_bipush (v := 63) hx hb dX7_greatestOf_0 (by decide) ?_
  refine lv_lload_n hx hb dX7_greatestOf_2 rfl (lv_at hl 0 rfl) ?_
  obtain ⟨u1, hu1, hf⟩ := bd_some hf
  refine caSI (rest := [.int (63 : Int32)]) (As := [.long q0]) (wr := []) (wo := []) ⟨hx, hb, hml, hown, hts⟩ hN hP hD hS hA (cJ13_numberOfLeadingZeros_95d88_ct l D cI cL cC cZ q0 u1 hu1) z1 [] [] [] rfl (by decide) rfl (by decide) (by decide) rfl (by decide) rfl hl.1 rfl (Nat.le_of_ble_eq_true rfl) dX7_greatestOf_3 ⟨Nat.zero_le _, Nat.zero_le _⟩ (fun H locs hP hD hS => ?_)
  refine lv_isub hx hb dX7_greatestOf_6 ?_
  have hE : (63 : Int32) - u1 = r0 := Option.some.inj hf
  subst hE
  exact rtI hx hb hr hlk hP hD hS dX7_greatestOf_7
abbrev rmX0_listFactors : Room := { frames := 0, cells := 0, slots := 0, locals := 0 }
noncomputable def bX0_listFactors_33 (x1 : Int32) (x2 : Int32) (x3 : Int32) (g_factors : Nat → Int32) : Option ((Int32 × Int32 × (Nat → Int32)) ⊕ (Int32 × (Nat → Int32))) := lt_ (x3 + (1 : Int32)) (fun y1 => some (Sum.inl ((x2, y1, g_factors))))
noncomputable def bX0_listFactors_4 (x1 : Int32) (x2 : Int32) (x3 : Int32) (g_factors : Nat → Int32) : Option ((Int32 × Int32 × (Nat → Int32)) ⊕ (Int32 × (Nat → Int32))) := br (x1 < ((2 : Int32) * x3)) (some (Sum.inr ((x2, g_factors)))) (gd (¬ x3 = 0) (lt_ (x1 - x1 / x3 * x3) (fun y4 => br (y4 = 0) (br ((10 : Int32) ≤ x2) (bX0_listFactors_33 x1 x2 x3 g_factors) (lt_ (x2 + (1 : Int32)) (fun y7 => gd (¬ x2 < 0 ∧ x2.toNatClampNeg < 10) (lt_ (upd g_factors x2.toNatClampNeg x3) (fun y9 => bX0_listFactors_33 x1 y7 x3 y9))))) (bX0_listFactors_33 x1 x2 x3 g_factors))))
noncomputable def sX0_listFactors_4 (x1 : Int32) : (Int32 × Int32 × (Nat → Int32)) → Option ((Int32 × Int32 × (Nat → Int32)) ⊕ (Int32 × (Nat → Int32))) := fun q => bX0_listFactors_4 x1 q.1 q.2.1 q.2.2
noncomputable def fX0_listFactors (q1 : Int32) (g_factors : Nat → Int32) : Option (Int32 × (Nat → Int32)) := run (sX0_listFactors_4 q1) (((0 : Int32), (2 : Int32), g_factors))
set_option maxHeartbeats 4000000 in
set_option maxRecDepth 100000 in
theorem cX0_listFactors_ct (l : Launch) (D : va_G) (cI cL cC cZ : ClassId) (a_this a_factors : Nat) (g_sought : Int64) (g_found : Int32) (g_fromBase : Int64) (g_base : Int32) (g_span : Int32) (g_widest : Int32) (g_firstStep : Int32) (g_secondStep : Int32) (g_firstLength : Int32) (g_secondLength : Int32) (g_factors : Nat → Int32) (q1 : Int32) (r0 : Int32) (v_factors : Nat → Int32) (hf : fX0_listFactors q1 g_factors = some ((r0, v_factors))) : CtI l yX0_listFactors wsX0_listFactors rmX0_listFactors D (tyz cI cL cC cZ) [.ref a_this, .int q1] [(a_this, .inr (0, [.ref a_factors, .long g_sought, .int g_found, .long g_fromBase, .int g_base, .int g_span, .int g_widest, .int g_firstStep, .int g_secondStep, .int g_firstLength, .int g_secondLength])), (a_factors, .inl (cI, 10, .inl g_factors))] [(a_this, .inr (0, [.ref a_factors, .long g_sought, .int g_found, .long g_fromBase, .int g_base, .int g_span, .int g_widest, .int g_firstStep, .int g_secondStep, .int g_firstLength, .int g_secondLength])), (a_factors, .inl (cI, 10, .inl v_factors))] r0 := by
  refine CtI.make (cc := cX0_listFactors) (maxL := 4) (ty := .int) (by decide) rfl (Nat.le_of_ble_eq_true rfl) ?_
  intro p e s m below meth c A ls C0 hN hA hP hD hl
  obtain ⟨hx, hb, hr, hml, hown, hts, hlk⟩ := id C0
  have hown : s.vm.findClass RX0 = some m.cls := hown
  have hS : va_S A s.heap s.heap [] := va_S.rf
  have hP : va_P D vwCl [(a_this, .inr (0, [.ref a_factors, .long g_sought, .int g_found, .long g_fromBase, .int g_base, .int g_span, .int g_widest, .int g_firstStep, .int g_secondStep, .int g_firstLength, .int g_secondLength])), (a_factors, .inl (cI, 10, .inl g_factors))] s.heap := hP
  have hD : va_D A [(a_this, .inr (0, [.ref a_factors, .long g_sought, .int g_found, .long g_fromBase, .int g_base, .int g_span, .int g_widest, .int g_firstStep, .int g_secondStep, .int g_firstLength, .int g_secondLength])), (a_factors, .inl (cI, 10, .inl g_factors))] := hD
  have hl : lv_has ls 4 [(0, .ref a_this), (1, .int q1)] := hl
  have z1 : ∀ w ∈ u_ws RX0 TX0 11, w ∈ wsX0_listFactors := by decide +kernel
  have z2 := hts (.fieldLink RX0 11 "LittleSums$GridSearch" "factors" "[I") (by decide +kernel)
  have w4 : ∀ (x1 : Int32) (x2 : Int32) (x3 : Int32) (g_factors : Nat → Int32) (t : Int32 × (Nat → Int32)) (H : Heap) (locs : List Loc) (ls : Array Slot), run (sX0_listFactors_4 x1) ((x2, x3, g_factors)) = some t → (fun z => z = (r0, v_factors)) t → va_P D vwCl [(a_this, .inr (0, [.ref a_factors, .long g_sought, .int g_found, .long g_fromBase, .int g_base, .int g_span, .int g_widest, .int g_firstStep, .int g_secondStep, .int g_firstLength, .int g_secondLength])), (a_factors, .inl (cI, 10, .inl g_factors))] H → va_D A [(a_this, .inr (0, [.ref a_factors, .long g_sought, .int g_found, .long g_fromBase, .int g_base, .int g_span, .int g_widest, .int g_firstStep, .int g_secondStep, .int g_firstLength, .int g_secondLength])), (a_factors, .inl (cI, 10, .inl g_factors))] → va_S A s.heap H locs → lv_has ls 4 [(0, .ref a_this), (1, .int x1), (2, .int x2), (3, .int x3)] → W p l e rmX0_listFactors s m ([.ref a_this, .int q1] : List Value).toArray below meth c H locs 0 0 (MQ below (cQi D r0 A [(a_this, .inr (0, [.ref a_factors, .long g_sought, .int g_found, .long g_fromBase, .int g_base, .int g_span, .int g_widest, .int g_firstStep, .int g_secondStep, .int g_firstLength, .int g_secondLength])), (a_factors, .inl (cI, 10, .inl v_factors))]) ([.ref a_this, .int q1] : List Value).toArray s 0 0 A) (F0 m 4 ls []) := by
    intro x1
    obtain ⟨F4, eF4⟩ : ∃ F : (Int32 × Int32 × (Nat → Int32)) → Prop, F = fun q => ∀ (H : Heap) (locs : List Loc) (ls : Array Slot), va_P D vwCl [(a_this, .inr (0, [.ref a_factors, .long g_sought, .int g_found, .long g_fromBase, .int g_base, .int g_span, .int g_widest, .int g_firstStep, .int g_secondStep, .int g_firstLength, .int g_secondLength])), (a_factors, .inl (cI, 10, .inl q.2.2))] H → va_D A [(a_this, .inr (0, [.ref a_factors, .long g_sought, .int g_found, .long g_fromBase, .int g_base, .int g_span, .int g_widest, .int g_firstStep, .int g_secondStep, .int g_firstLength, .int g_secondLength])), (a_factors, .inl (cI, 10, .inl q.2.2))] → va_S A s.heap H locs → lv_has ls 4 [(0, .ref a_this), (1, .int x1), (2, .int q.1), (3, .int q.2.1)] → W p l e rmX0_listFactors s m ([.ref a_this, .int q1] : List Value).toArray below meth c H locs 0 0 (MQ below (cQi D r0 A [(a_this, .inr (0, [.ref a_factors, .long g_sought, .int g_found, .long g_fromBase, .int g_base, .int g_span, .int g_widest, .int g_firstStep, .int g_secondStep, .int g_firstLength, .int g_secondLength])), (a_factors, .inl (cI, 10, .inl v_factors))]) ([.ref a_this, .int q1] : List Value).toArray s 0 0 A) (F0 m 4 ls []) := ⟨_, rfl⟩
    have key : ∀ (q : Int32 × Int32 × (Nat → Int32)) (t : Int32 × (Nat → Int32)), run (sX0_listFactors_4 x1) q = some t → (fun z => z = (r0, v_factors)) t → F4 q := by
      refine loop_rule (sX0_listFactors_4 x1) F4 (fun z => z = (r0, v_factors)) ?_
      intro q t hf hF
      have hF : (Sum.elim F4 (fun z => z = (r0, v_factors))) t := hF
      have w33 : ∀ (x2 : Int32) (x3 : Int32) (g_factors : Nat → Int32) (t : (Int32 × Int32 × (Nat → Int32)) ⊕ (Int32 × (Nat → Int32))) (H : Heap) (locs : List Loc) (ls : Array Slot), bX0_listFactors_33 x1 x2 x3 g_factors = some t → (Sum.elim F4 (fun z => z = (r0, v_factors))) t → va_P D vwCl [(a_this, .inr (0, [.ref a_factors, .long g_sought, .int g_found, .long g_fromBase, .int g_base, .int g_span, .int g_widest, .int g_firstStep, .int g_secondStep, .int g_firstLength, .int g_secondLength])), (a_factors, .inl (cI, 10, .inl g_factors))] H → va_D A [(a_this, .inr (0, [.ref a_factors, .long g_sought, .int g_found, .long g_fromBase, .int g_base, .int g_span, .int g_widest, .int g_firstStep, .int g_secondStep, .int g_firstLength, .int g_secondLength])), (a_factors, .inl (cI, 10, .inl g_factors))] → va_S A s.heap H locs → lv_has ls 4 [(0, .ref a_this), (1, .int x1), (2, .int x2), (3, .int x3)] → W p l e rmX0_listFactors s m ([.ref a_this, .int q1] : List Value).toArray below meth c H locs 0 0 (MQ below (cQi D r0 A [(a_this, .inr (0, [.ref a_factors, .long g_sought, .int g_found, .long g_fromBase, .int g_base, .int g_span, .int g_widest, .int g_firstStep, .int g_secondStep, .int g_firstLength, .int g_secondLength])), (a_factors, .inl (cI, 10, .inl v_factors))]) ([.ref a_this, .int q1] : List Value).toArray s 0 0 A) (F0 m 33 ls []) := by
        intro x2 x3 g_factors t H locs ls hf hF hP hD hS hl
        unfold bX0_listFactors_33 at hf
        obtain ⟨y1, ey1⟩ : ∃ z : Int32, z = x3 + (1 : Int32) := ⟨_, rfl⟩
        have hf := lt_some hf y1 ey1
        refine lv_iinc (v := y1) (lv' := [(3, .int y1), (0, .ref a_this), (1, .int x1), (2, .int x2)]) hx hb dX0_listFactors_33 hl (k := 3) rfl (by rw [ey1]; rfl) (by decide) rfl (fun ls hl => ?_)
        refine lv_goto (tgt := 4) hx hb dX0_listFactors_36 (by decide) ?_
        cases hf
        exact ((congrFun eF4 _).mp hF) H locs ls hP hD hS (lv_sub hl [1, 2, 3, 0] rfl)
      rw [eF4]
      obtain ⟨x2, x3, g_factors⟩ := q
      intro H locs ls hP hD hS hl
      have hP : va_P D vwCl [(a_this, .inr (0, [.ref a_factors, .long g_sought, .int g_found, .long g_fromBase, .int g_base, .int g_span, .int g_widest, .int g_firstStep, .int g_secondStep, .int g_firstLength, .int g_secondLength])), (a_factors, .inl (cI, 10, .inl g_factors))] H := hP
      have hD : va_D A [(a_this, .inr (0, [.ref a_factors, .long g_sought, .int g_found, .long g_fromBase, .int g_base, .int g_span, .int g_widest, .int g_firstStep, .int g_secondStep, .int g_firstLength, .int g_secondLength])), (a_factors, .inl (cI, 10, .inl g_factors))] := hD
      have hl : lv_has ls 4 [(0, .ref a_this), (1, .int x1), (2, .int x2), (3, .int x3)] := hl
      have hf : bX0_listFactors_4 x1 x2 x3 g_factors = some t := hf
      unfold bX0_listFactors_4 at hf
      refine lv_iconst (v := 2) hx hb dX0_listFactors_4 (by decide) ?_
      refine lv_iload_n hx hb dX0_listFactors_5 rfl (lv_at hl 3 rfl) ?_
      refine lv_imul hx hb dX0_listFactors_6 ?_
      refine lv_iload_n hx hb dX0_listFactors_7 rfl (lv_at hl 1 rfl) ?_
      refine lv_icmp_gt (tgt := 39) hx hb dX0_listFactors_8 (by decide) (fun c2 => ?_) (fun c2 => ?_)
      · have hf := br_pos c2 hf
        refine lv_iload_n hx hb dX0_listFactors_39 rfl (lv_at hl 2 rfl) ?_
        cases hf
        have hE : (x2, g_factors) = (r0, v_factors) := hF
        simp only [Prod.mk.injEq] at hE
        obtain ⟨rfl, rfl⟩ := hE
        exact rtI hx hb hr hlk hP hD hS dX0_listFactors_40
      · have hf := br_neg c2 hf
        refine lv_iload_n hx hb dX0_listFactors_11 rfl (lv_at hl 1 rfl) ?_
        refine lv_iload_n hx hb dX0_listFactors_12 rfl (lv_at hl 3 rfl) ?_
        obtain ⟨c3, hf⟩ := gd_some hf
        refine lv_irem hx hb dX0_listFactors_13 c3 ?_
        refine lv_topi (fun y4 ey4 => ?_)
        have hf := lt_some hf y4 ey4
        refine lv_if_ne (tgt := 33) hx hb dX0_listFactors_14 (by decide) (fun c5 => ?_) (fun c5 => ?_)
        · have hf := br_neg c5 hf
          exact w33 x2 x3 g_factors _ H locs ls hf hF hP hD hS (lv_sub hl [0, 1, 2, 3] rfl)
        · have hf := br_pos c5 hf
          refine lv_iload_n hx hb dX0_listFactors_17 rfl (lv_at hl 2 rfl) ?_
          refine lv_bipush (v := 10) hx hb dX0_listFactors_18 (by decide) ?_
          refine lv_icmp_ge (tgt := 33) hx hb dX0_listFactors_20 (by decide) (fun c6 => ?_) (fun c6 => ?_)
          · have hf := br_pos c6 hf
            exact w33 x2 x3 g_factors _ H locs ls hf hF hP hD hS (lv_sub hl [0, 1, 2, 3] rfl)
          · have hf := br_neg c6 hf
            refine lv_aload_n hx hb dX0_listFactors_23 rfl (lv_at hl 0 rfl) ?_
            refine va_get (D := D) (ci := 0) (v := .ref a_factors) (C := RX0) (T := TX0) (N := 11) hx hb hts z1 hown hN.1 hP 0 rfl rfl 0 (by decide) z2 (fun _ h9 => h9) rfl dX0_listFactors_24 ?_
            refine lv_iload_n hx hb dX0_listFactors_27 rfl (lv_at hl 2 rfl) ?_
            obtain ⟨y7, ey7⟩ : ∃ z : Int32, z = x2 + (1 : Int32) := ⟨_, rfl⟩
            have hf := lt_some hf y7 ey7
            refine lv_iinc (v := y7) (lv' := [(2, .int y7), (0, .ref a_this), (1, .int x1), (3, .int x3)]) hx hb dX0_listFactors_28 hl (k := 2) rfl (by rw [ey7]; rfl) (by decide) rfl (fun ls hl => ?_)
            refine lv_iload_n hx hb dX0_listFactors_31 rfl (lv_at hl 3 rfl) ?_
            obtain ⟨c8, hf⟩ := gd_some hf
            refine va_iast hx hb hN.1 hP hD hS 1 0 rfl rfl (ix_in c8) dX0_listFactors_32 (fun H locs hP hD hS => ?_)
            obtain ⟨y9, ey9⟩ : ∃ z, z = upd g_factors x2.toNatClampNeg x3 := ⟨_, rfl⟩
            have hf := lt_some hf y9 ey9
            have hP : va_P D vwCl [(a_this, .inr (0, [.ref a_factors, .long g_sought, .int g_found, .long g_fromBase, .int g_base, .int g_span, .int g_widest, .int g_firstStep, .int g_secondStep, .int g_firstLength, .int g_secondLength])), (a_factors, .inl (cI, 10, .inl y9))] H := by rw [ey9]; exact hP
            have hD : va_D A [(a_this, .inr (0, [.ref a_factors, .long g_sought, .int g_found, .long g_fromBase, .int g_base, .int g_span, .int g_widest, .int g_firstStep, .int g_secondStep, .int g_firstLength, .int g_secondLength])), (a_factors, .inl (cI, 10, .inl y9))] := by rw [ey9]; exact hD
            exact w33 y7 x3 y9 _ H locs ls hf hF hP hD hS (lv_sub hl [1, 2, 0, 3] rfl)
    intro x2 x3 g_factors t H locs ls hf hF hP hD hS hl
    exact ((congrFun eF4 _).mp (key ((x2, x3, g_factors)) t hf hF)) H locs ls hP hD hS hl
  unfold fX0_listFactors at hf
  obtain ⟨H, eH⟩ : ∃ z, z = s.heap := ⟨_, rfl⟩
  obtain ⟨locs, eL⟩ : ∃ z : List Loc, z = [] := ⟨_, rfl⟩
  have hP : va_P D vwCl [(a_this, .inr (0, [.ref a_factors, .long g_sought, .int g_found, .long g_fromBase, .int g_base, .int g_span, .int g_widest, .int g_firstStep, .int g_secondStep, .int g_firstLength, .int g_secondLength])), (a_factors, .inl (cI, 10, .inl g_factors))] H := by rw [eH]; exact hP
  have hS : va_S A s.heap H locs := by rw [eH, eL]; exact hS
  suffices hG : W p l e rmX0_listFactors s m ([.ref a_this, .int q1] : List Value).toArray below meth c H locs 0 0 (MQ below (cQi D r0 A [(a_this, .inr (0, [.ref a_factors, .long g_sought, .int g_found, .long g_fromBase, .int g_base, .int g_span, .int g_widest, .int g_firstStep, .int g_secondStep, .int g_firstLength, .int g_secondLength])), (a_factors, .inl (cI, 10, .inl v_factors))]) ([.ref a_this, .int q1] : List Value).toArray s 0 0 A) (F0 m 0 ls []) by rw [eH, eL] at hG; exact hG
  refine lv_iconst (v := 0) hx hb dX0_listFactors_0 (by decide) ?_
  refine lv_istore_n (lv' := [(2, .int (0 : Int32)), (0, .ref a_this), (1, .int q1)]) hx hb dX0_listFactors_1 rfl hl (by decide) rfl (fun ls hl => ?_)
  refine lv_iconst (v := 2) hx hb dX0_listFactors_2 (by decide) ?_
  refine lv_istore_n (lv' := [(3, .int (2 : Int32)), (2, .int (0 : Int32)), (0, .ref a_this), (1, .int q1)]) hx hb dX0_listFactors_3 rfl hl (by decide) rfl (fun ls hl => ?_)
  exact w4 q1 (0 : Int32) (2 : Int32) g_factors (r0, v_factors) H locs ls hf rfl hP hD hS (lv_sub hl [2, 3, 1, 0] rfl)
abbrev rmX0_reaches : Room := { frames := 0, cells := 0, slots := 0, locals := 0 }
noncomputable def bX0_reaches_36 (g_span : Int32) (g_widest : Int32) : Option (Int32) := gd ((0 : Int32) = 0 ∨ (0 : Int32) = 1) (some ((0 : Int32)))
noncomputable def fX0_reaches (q1 : Int32) (q2 : Int32) (q3 : Int32) (q4 : Int32) (g_span : Int32) (g_widest : Int32) : Option (Int32) := lt_ (((q3 - (1 : Int32)) * q1) + ((q4 - (1 : Int32)) * q2)) (fun y2 => br (y2 < g_span) (bX0_reaches_36 g_span g_widest) (br (g_widest < y2) (bX0_reaches_36 g_span g_widest) (gd ((1 : Int32) = 0 ∨ (1 : Int32) = 1) (some ((1 : Int32))))))
set_option maxHeartbeats 4000000 in
set_option maxRecDepth 100000 in
theorem cX0_reaches_ct (l : Launch) (D : va_G) (cI cL cC cZ : ClassId) (a_this a_factors : Nat) (g_sought : Int64) (g_found : Int32) (g_fromBase : Int64) (g_base : Int32) (g_span : Int32) (g_widest : Int32) (g_firstStep : Int32) (g_secondStep : Int32) (g_firstLength : Int32) (g_secondLength : Int32) (q1 : Int32) (q2 : Int32) (q3 : Int32) (q4 : Int32) (r0 : Int32) (hf : fX0_reaches q1 q2 q3 q4 g_span g_widest = some r0) : CtI l yX0_reaches wsX0_reaches rmX0_reaches D (tyz cI cL cC cZ) [.ref a_this, .int q1, .int q2, .int q3, .int q4] [(a_this, .inr (0, [.ref a_factors, .long g_sought, .int g_found, .long g_fromBase, .int g_base, .int g_span, .int g_widest, .int g_firstStep, .int g_secondStep, .int g_firstLength, .int g_secondLength]))] [(a_this, .inr (0, [.ref a_factors, .long g_sought, .int g_found, .long g_fromBase, .int g_base, .int g_span, .int g_widest, .int g_firstStep, .int g_secondStep, .int g_firstLength, .int g_secondLength]))] r0 := by
  refine CtI.make (cc := cX0_reaches) (maxL := 6) (ty := .boolean) (by decide) rfl (Nat.le_of_ble_eq_true rfl) ?_
  intro p e s m below meth c A ls C0 hN hA hP hD hl
  obtain ⟨hx, hb, hr, hml, hown, hts, hlk⟩ := id C0
  have hown : s.vm.findClass RX0 = some m.cls := hown
  have hS : va_S A s.heap s.heap [] := va_S.rf
  have hP : va_P D vwCl [(a_this, .inr (0, [.ref a_factors, .long g_sought, .int g_found, .long g_fromBase, .int g_base, .int g_span, .int g_widest, .int g_firstStep, .int g_secondStep, .int g_firstLength, .int g_secondLength]))] s.heap := hP
  have hD : va_D A [(a_this, .inr (0, [.ref a_factors, .long g_sought, .int g_found, .long g_fromBase, .int g_base, .int g_span, .int g_widest, .int g_firstStep, .int g_secondStep, .int g_firstLength, .int g_secondLength]))] := hD
  have hl : lv_has ls 6 [(0, .ref a_this), (1, .int q1), (2, .int q2), (3, .int q3), (4, .int q4)] := hl
  have z1 : ∀ w ∈ u_ws RX0 TX0 11, w ∈ wsX0_reaches := by decide +kernel
  have z2 := hts (.fieldLink RX0 49 "LittleSums$GridSearch" "span" "I") (by decide +kernel)
  have z3 := hts (.fieldLink RX0 52 "LittleSums$GridSearch" "widest" "I") (by decide +kernel)
  have w36 : ∀ (g_span : Int32) (g_widest : Int32) (H : Heap) (locs : List Loc) (ls : Array Slot), bX0_reaches_36 g_span g_widest = some r0 → va_P D vwCl [(a_this, .inr (0, [.ref a_factors, .long g_sought, .int g_found, .long g_fromBase, .int g_base, .int g_span, .int g_widest, .int g_firstStep, .int g_secondStep, .int g_firstLength, .int g_secondLength]))] H → va_D A [(a_this, .inr (0, [.ref a_factors, .long g_sought, .int g_found, .long g_fromBase, .int g_base, .int g_span, .int g_widest, .int g_firstStep, .int g_secondStep, .int g_firstLength, .int g_secondLength]))] → va_S A s.heap H locs → lv_has ls 6 [] → W p l e rmX0_reaches s m ([.ref a_this, .int q1, .int q2, .int q3, .int q4] : List Value).toArray below meth c H locs 0 0 (MQ below (cQi D r0 A [(a_this, .inr (0, [.ref a_factors, .long g_sought, .int g_found, .long g_fromBase, .int g_base, .int g_span, .int g_widest, .int g_firstStep, .int g_secondStep, .int g_firstLength, .int g_secondLength]))]) ([.ref a_this, .int q1, .int q2, .int q3, .int q4] : List Value).toArray s 0 0 A) (F0 m 36 ls []) := by
    intro g_span g_widest H locs ls hf hP hD hS hl
    unfold bX0_reaches_36 at hf
    refine lv_iconst (v := 0) hx hb dX0_reaches_36 (by decide) ?_
    obtain ⟨c1, hf⟩ := gd_some hf
    have hE : (0 : Int32) = r0 := Option.some.inj hf
    subst hE
    exact rtZ hx hb hr hlk c1 hP hD hS dX0_reaches_37
  unfold fX0_reaches at hf
  obtain ⟨H, eH⟩ : ∃ z, z = s.heap := ⟨_, rfl⟩
  obtain ⟨locs, eL⟩ : ∃ z : List Loc, z = [] := ⟨_, rfl⟩
  have hP : va_P D vwCl [(a_this, .inr (0, [.ref a_factors, .long g_sought, .int g_found, .long g_fromBase, .int g_base, .int g_span, .int g_widest, .int g_firstStep, .int g_secondStep, .int g_firstLength, .int g_secondLength]))] H := by rw [eH]; exact hP
  have hS : va_S A s.heap H locs := by rw [eH, eL]; exact hS
  suffices hG : W p l e rmX0_reaches s m ([.ref a_this, .int q1, .int q2, .int q3, .int q4] : List Value).toArray below meth c H locs 0 0 (MQ below (cQi D r0 A [(a_this, .inr (0, [.ref a_factors, .long g_sought, .int g_found, .long g_fromBase, .int g_base, .int g_span, .int g_widest, .int g_firstStep, .int g_secondStep, .int g_firstLength, .int g_secondLength]))]) ([.ref a_this, .int q1, .int q2, .int q3, .int q4] : List Value).toArray s 0 0 A) (F0 m 0 ls []) by rw [eH, eL] at hG; exact hG
  refine lv_iload_n hx hb dX0_reaches_0 rfl (lv_at hl 3 rfl) ?_
  refine lv_iconst (v := 1) hx hb dX0_reaches_1 (by decide) ?_
  refine lv_isub hx hb dX0_reaches_2 ?_
  refine lv_iload_n hx hb dX0_reaches_3 rfl (lv_at hl 1 rfl) ?_
  refine lv_imul hx hb dX0_reaches_4 ?_
  refine lv_iload hx hb dX0_reaches_5 (lv_at hl 4 rfl) ?_
  refine lv_iconst (v := 1) hx hb dX0_reaches_7 (by decide) ?_
  refine lv_isub hx hb dX0_reaches_8 ?_
  refine lv_iload_n hx hb dX0_reaches_9 rfl (lv_at hl 2 rfl) ?_
  refine lv_imul hx hb dX0_reaches_10 ?_
  refine lv_iadd hx hb dX0_reaches_11 ?_
  refine lv_topi (fun y2 ey2 => ?_)
  have hf := lt_some hf y2 ey2
  refine lv_istore (lv' := [(5, .int y2), (0, .ref a_this), (1, .int q1), (2, .int q2), (3, .int q3), (4, .int q4)]) hx hb dX0_reaches_12 hl (by decide) rfl (fun ls hl => ?_)
  refine lv_iload hx hb dX0_reaches_14 (lv_at hl 0 rfl) ?_
  refine lv_aload_n hx hb dX0_reaches_16 rfl (lv_at hl 1 rfl) ?_
  refine va_get (D := D) (ci := 0) (v := .int g_span) (C := RX0) (T := TX0) (N := 11) hx hb hts z1 hown hN.1 hP 0 rfl rfl 5 (by decide) z2 (fun _ h9 => h9) rfl dX0_reaches_17 ?_
  refine lv_icmp_lt (tgt := 36) hx hb dX0_reaches_20 (by decide) (fun c3 => ?_) (fun c3 => ?_)
  · have hf := br_pos c3 hf
    exact w36 g_span g_widest H locs ls hf hP hD hS (lv_sub hl [] rfl)
  · have hf := br_neg c3 hf
    refine lv_iload hx hb dX0_reaches_23 (lv_at hl 0 rfl) ?_
    refine lv_aload_n hx hb dX0_reaches_25 rfl (lv_at hl 1 rfl) ?_
    refine va_get (D := D) (ci := 0) (v := .int g_widest) (C := RX0) (T := TX0) (N := 11) hx hb hts z1 hown hN.1 hP 0 rfl rfl 6 (by decide) z3 (fun _ h9 => h9) rfl dX0_reaches_26 ?_
    refine lv_icmp_gt (tgt := 36) hx hb dX0_reaches_29 (by decide) (fun c4 => ?_) (fun c4 => ?_)
    · have hf := br_pos c4 hf
      exact w36 g_span g_widest H locs ls hf hP hD hS (lv_sub hl [] rfl)
    · have hf := br_neg c4 hf
      refine lv_iconst (v := 1) hx hb dX0_reaches_32 (by decide) ?_
      refine lv_goto (tgt := 37) hx hb dX0_reaches_33 (by decide) ?_
      obtain ⟨c5, hf⟩ := gd_some hf
      have hE : (1 : Int32) = r0 := Option.some.inj hf
      subst hE
      exact rtZ hx hb hr hlk c5 hP hD hS dX0_reaches_37
abbrev rmX0_hasAll : Room := { frames := 0, cells := 0, slots := 0, locals := 0 }
noncomputable def bX0_hasAll_89 (x7 : Int64) (g_fromBase : Int64) (g_span : Int32) : Option (Int32) := br ((lg_cmp x7 (0 : Int64)) = 0) (gd ((1 : Int32) = 0 ∨ (1 : Int32) = 1) (some ((1 : Int32)))) (gd ((0 : Int32) = 0 ∨ (0 : Int32) = 1) (some ((0 : Int32))))
noncomputable def bX0_hasAll_49 (x2 : Int32) (x4 : Int32) (x5 : Int64) (g_fromBase : Int64) (g_span : Int32) (x7 : Int64) (x9 : Int32) : Option ((Int64 × Int32) ⊕ (Int32)) := br (x4 ≤ x9) (ml (bX0_hasAll_89 x7 g_fromBase g_span)) (br (g_span < (x9 * x2)) (ml (bX0_hasAll_89 x7 g_fromBase g_span)) (lt_ (x7 &&& ((x5 <<< ((x9 * x2).toInt64 &&& 63)) ^^^ (-1 : Int64))) (fun y8 => lt_ (x9 + (1 : Int32)) (fun y9 => some (Sum.inl ((y8, y9)))))))
noncomputable def sX0_hasAll_49 (x2 : Int32) (x4 : Int32) (x5 : Int64) (g_fromBase : Int64) (g_span : Int32) : (Int64 × Int32) → Option ((Int64 × Int32) ⊕ (Int32)) := fun q => bX0_hasAll_49 x2 x4 x5 g_fromBase g_span q.1 q.2
noncomputable def bX0_hasAll_40 (x2 : Int32) (x4 : Int32) (x5 : Int64) (g_fromBase : Int64) (g_span : Int32) : Option (Int32) := run (sX0_hasAll_49 x2 x4 x5 g_fromBase g_span) ((g_fromBase, (0 : Int32)))
noncomputable def bX0_hasAll_6 (x1 : Int32) (x2 : Int32) (x3 : Int32) (x4 : Int32) (g_fromBase : Int64) (g_span : Int32) (x5 : Int64) (x7 : Int32) : Option ((Int64 × Int32) ⊕ (Int32)) := br (x3 ≤ x7) (ml (bX0_hasAll_40 x2 x4 x5 g_fromBase g_span)) (br (g_span < (x7 * x1)) (ml (bX0_hasAll_40 x2 x4 x5 g_fromBase g_span)) (lt_ (x5 ||| ((1 : Int64) <<< ((x7 * x1).toInt64 &&& 63))) (fun y14 => lt_ (x7 + (1 : Int32)) (fun y15 => some (Sum.inl ((y14, y15)))))))
noncomputable def sX0_hasAll_6 (x1 : Int32) (x2 : Int32) (x3 : Int32) (x4 : Int32) (g_fromBase : Int64) (g_span : Int32) : (Int64 × Int32) → Option ((Int64 × Int32) ⊕ (Int32)) := fun q => bX0_hasAll_6 x1 x2 x3 x4 g_fromBase g_span q.1 q.2
noncomputable def fX0_hasAll (q1 : Int32) (q2 : Int32) (q3 : Int32) (q4 : Int32) (g_fromBase : Int64) (g_span : Int32) : Option (Int32) := run (sX0_hasAll_6 q1 q2 q3 q4 g_fromBase g_span) (((0 : Int64), (0 : Int32)))
set_option maxHeartbeats 4000000 in
set_option maxRecDepth 100000 in
theorem cX0_hasAll_ct (l : Launch) (D : va_G) (cI cL cC cZ : ClassId) (a_this a_factors : Nat) (g_sought : Int64) (g_found : Int32) (g_fromBase : Int64) (g_base : Int32) (g_span : Int32) (g_widest : Int32) (g_firstStep : Int32) (g_secondStep : Int32) (g_firstLength : Int32) (g_secondLength : Int32) (q1 : Int32) (q2 : Int32) (q3 : Int32) (q4 : Int32) (r0 : Int32) (hf : fX0_hasAll q1 q2 q3 q4 g_fromBase g_span = some r0) : CtI l yX0_hasAll wsX0_hasAll rmX0_hasAll D (tyz cI cL cC cZ) [.ref a_this, .int q1, .int q2, .int q3, .int q4] [(a_this, .inr (0, [.ref a_factors, .long g_sought, .int g_found, .long g_fromBase, .int g_base, .int g_span, .int g_widest, .int g_firstStep, .int g_secondStep, .int g_firstLength, .int g_secondLength]))] [(a_this, .inr (0, [.ref a_factors, .long g_sought, .int g_found, .long g_fromBase, .int g_base, .int g_span, .int g_widest, .int g_firstStep, .int g_secondStep, .int g_firstLength, .int g_secondLength]))] r0 := by
  refine CtI.make (cc := cX0_hasAll) (maxL := 10) (ty := .boolean) (by decide) rfl (Nat.le_of_ble_eq_true rfl) ?_
  intro p e s m below meth c A ls C0 hN hA hP hD hl
  obtain ⟨hx, hb, hr, hml, hown, hts, hlk⟩ := id C0
  have hown : s.vm.findClass RX0 = some m.cls := hown
  have hS : va_S A s.heap s.heap [] := va_S.rf
  have hP : va_P D vwCl [(a_this, .inr (0, [.ref a_factors, .long g_sought, .int g_found, .long g_fromBase, .int g_base, .int g_span, .int g_widest, .int g_firstStep, .int g_secondStep, .int g_firstLength, .int g_secondLength]))] s.heap := hP
  have hD : va_D A [(a_this, .inr (0, [.ref a_factors, .long g_sought, .int g_found, .long g_fromBase, .int g_base, .int g_span, .int g_widest, .int g_firstStep, .int g_secondStep, .int g_firstLength, .int g_secondLength]))] := hD
  have hl : lv_has ls 10 [(0, .ref a_this), (1, .int q1), (2, .int q2), (3, .int q3), (4, .int q4)] := hl
  have z1 : ∀ w ∈ u_ws RX0 TX0 11, w ∈ wsX0_hasAll := by decide +kernel
  have z2 := hts (.fieldLink RX0 49 "LittleSums$GridSearch" "span" "I") (by decide +kernel)
  have z3 := hts (.constantLong RX0 88 (-1)) (by decide +kernel)
  have z4 := hts (.fieldLink RX0 43 "LittleSums$GridSearch" "fromBase" "J") (by decide +kernel)
  have w89 : ∀ (x7 : Int64) (g_fromBase : Int64) (g_span : Int32) (H : Heap) (locs : List Loc) (ls : Array Slot), bX0_hasAll_89 x7 g_fromBase g_span = some r0 → va_P D vwCl [(a_this, .inr (0, [.ref a_factors, .long g_sought, .int g_found, .long g_fromBase, .int g_base, .int g_span, .int g_widest, .int g_firstStep, .int g_secondStep, .int g_firstLength, .int g_secondLength]))] H → va_D A [(a_this, .inr (0, [.ref a_factors, .long g_sought, .int g_found, .long g_fromBase, .int g_base, .int g_span, .int g_widest, .int g_firstStep, .int g_secondStep, .int g_firstLength, .int g_secondLength]))] → va_S A s.heap H locs → lv_has ls 10 [(7, .long x7)] → W p l e rmX0_hasAll s m ([.ref a_this, .int q1, .int q2, .int q3, .int q4] : List Value).toArray below meth c H locs 0 0 (MQ below (cQi D r0 A [(a_this, .inr (0, [.ref a_factors, .long g_sought, .int g_found, .long g_fromBase, .int g_base, .int g_span, .int g_widest, .int g_firstStep, .int g_secondStep, .int g_firstLength, .int g_secondLength]))]) ([.ref a_this, .int q1, .int q2, .int q3, .int q4] : List Value).toArray s 0 0 A) (F0 m 89 ls []) := by
    intro x7 g_fromBase g_span H locs ls hf hP hD hS hl
    unfold bX0_hasAll_89 at hf
    refine lv_lload hx hb dX0_hasAll_89 (lv_at hl 0 rfl) ?_
    refine lv_lconst (v := 0) hx hb dX0_hasAll_91 (by decide) ?_
    refine W.lcmp hx hb dX0_hasAll_92 ?_
    refine lv_if_ne (tgt := 100) hx hb dX0_hasAll_93 (by decide) (fun c1 => ?_) (fun c1 => ?_)
    · have hf := br_neg c1 hf
      refine lv_iconst (v := 0) hx hb dX0_hasAll_100 (by decide) ?_
      obtain ⟨c2, hf⟩ := gd_some hf
      have hE : (0 : Int32) = r0 := Option.some.inj hf
      subst hE
      exact rtZ hx hb hr hlk c2 hP hD hS dX0_hasAll_101
    · have hf := br_pos c1 hf
      refine lv_iconst (v := 1) hx hb dX0_hasAll_96 (by decide) ?_
      refine lv_goto (tgt := 101) hx hb dX0_hasAll_97 (by decide) ?_
      obtain ⟨c3, hf⟩ := gd_some hf
      have hE : (1 : Int32) = r0 := Option.some.inj hf
      subst hE
      exact rtZ hx hb hr hlk c3 hP hD hS dX0_hasAll_101
  have w49 : ∀ (x2 : Int32) (x4 : Int32) (x5 : Int64) (g_fromBase : Int64) (g_span : Int32) (x7 : Int64) (x9 : Int32) (t : Int32) (H : Heap) (locs : List Loc) (ls : Array Slot), run (sX0_hasAll_49 x2 x4 x5 g_fromBase g_span) ((x7, x9)) = some t → (fun z => z = r0) t → va_P D vwCl [(a_this, .inr (0, [.ref a_factors, .long g_sought, .int g_found, .long g_fromBase, .int g_base, .int g_span, .int g_widest, .int g_firstStep, .int g_secondStep, .int g_firstLength, .int g_secondLength]))] H → va_D A [(a_this, .inr (0, [.ref a_factors, .long g_sought, .int g_found, .long g_fromBase, .int g_base, .int g_span, .int g_widest, .int g_firstStep, .int g_secondStep, .int g_firstLength, .int g_secondLength]))] → va_S A s.heap H locs → lv_has ls 10 [(0, .ref a_this), (2, .int x2), (4, .int x4), (5, .long x5), (7, .long x7), (9, .int x9)] → W p l e rmX0_hasAll s m ([.ref a_this, .int q1, .int q2, .int q3, .int q4] : List Value).toArray below meth c H locs 0 0 (MQ below (cQi D r0 A [(a_this, .inr (0, [.ref a_factors, .long g_sought, .int g_found, .long g_fromBase, .int g_base, .int g_span, .int g_widest, .int g_firstStep, .int g_secondStep, .int g_firstLength, .int g_secondLength]))]) ([.ref a_this, .int q1, .int q2, .int q3, .int q4] : List Value).toArray s 0 0 A) (F0 m 49 ls []) := by
    intro x2 x4 x5 g_fromBase g_span
    obtain ⟨F49, eF49⟩ : ∃ F : (Int64 × Int32) → Prop, F = fun q => ∀ (H : Heap) (locs : List Loc) (ls : Array Slot), va_P D vwCl [(a_this, .inr (0, [.ref a_factors, .long g_sought, .int g_found, .long g_fromBase, .int g_base, .int g_span, .int g_widest, .int g_firstStep, .int g_secondStep, .int g_firstLength, .int g_secondLength]))] H → va_D A [(a_this, .inr (0, [.ref a_factors, .long g_sought, .int g_found, .long g_fromBase, .int g_base, .int g_span, .int g_widest, .int g_firstStep, .int g_secondStep, .int g_firstLength, .int g_secondLength]))] → va_S A s.heap H locs → lv_has ls 10 [(0, .ref a_this), (2, .int x2), (4, .int x4), (5, .long x5), (7, .long q.1), (9, .int q.2)] → W p l e rmX0_hasAll s m ([.ref a_this, .int q1, .int q2, .int q3, .int q4] : List Value).toArray below meth c H locs 0 0 (MQ below (cQi D r0 A [(a_this, .inr (0, [.ref a_factors, .long g_sought, .int g_found, .long g_fromBase, .int g_base, .int g_span, .int g_widest, .int g_firstStep, .int g_secondStep, .int g_firstLength, .int g_secondLength]))]) ([.ref a_this, .int q1, .int q2, .int q3, .int q4] : List Value).toArray s 0 0 A) (F0 m 49 ls []) := ⟨_, rfl⟩
    have key : ∀ (q : Int64 × Int32) (t : Int32), run (sX0_hasAll_49 x2 x4 x5 g_fromBase g_span) q = some t → (fun z => z = r0) t → F49 q := by
      refine loop_rule (sX0_hasAll_49 x2 x4 x5 g_fromBase g_span) F49 (fun z => z = r0) ?_
      intro q t hf hF
      have hF : (Sum.elim F49 (fun z => z = r0)) t := hF
      rw [eF49]
      obtain ⟨x7, x9⟩ := q
      intro H locs ls hP hD hS hl
      have hP : va_P D vwCl [(a_this, .inr (0, [.ref a_factors, .long g_sought, .int g_found, .long g_fromBase, .int g_base, .int g_span, .int g_widest, .int g_firstStep, .int g_secondStep, .int g_firstLength, .int g_secondLength]))] H := hP
      have hD : va_D A [(a_this, .inr (0, [.ref a_factors, .long g_sought, .int g_found, .long g_fromBase, .int g_base, .int g_span, .int g_widest, .int g_firstStep, .int g_secondStep, .int g_firstLength, .int g_secondLength]))] := hD
      have hl : lv_has ls 10 [(0, .ref a_this), (2, .int x2), (4, .int x4), (5, .long x5), (7, .long x7), (9, .int x9)] := hl
      have hf : bX0_hasAll_49 x2 x4 x5 g_fromBase g_span x7 x9 = some t := hf
      unfold bX0_hasAll_49 at hf
      refine lv_iload hx hb dX0_hasAll_49 (lv_at hl 5 rfl) ?_
      refine lv_iload hx hb dX0_hasAll_51 (lv_at hl 2 rfl) ?_
      refine lv_icmp_ge (tgt := 89) hx hb dX0_hasAll_53 (by decide) (fun c4 => ?_) (fun c4 => ?_)
      · have hf := br_pos c4 hf
        obtain ⟨t5, hf, hF⟩ := ml_fin hf hF
        have hF : t5 = r0 := hF
        rw [hF] at hf
        exact w89 x7 g_fromBase g_span H locs ls hf hP hD hS (lv_sub hl [4] rfl)
      · have hf := br_neg c4 hf
        refine lv_iload hx hb dX0_hasAll_56 (lv_at hl 5 rfl) ?_
        refine lv_iload_n hx hb dX0_hasAll_58 rfl (lv_at hl 1 rfl) ?_
        refine lv_imul hx hb dX0_hasAll_59 ?_
        refine lv_aload_n hx hb dX0_hasAll_60 rfl (lv_at hl 0 rfl) ?_
        refine va_get (D := D) (ci := 0) (v := .int g_span) (C := RX0) (T := TX0) (N := 11) hx hb hts z1 hown hN.1 hP 0 rfl rfl 5 (by decide) z2 (fun _ h9 => h9) rfl dX0_hasAll_61 ?_
        refine lv_icmp_gt (tgt := 89) hx hb dX0_hasAll_64 (by decide) (fun c6 => ?_) (fun c6 => ?_)
        · have hf := br_pos c6 hf
          obtain ⟨t7, hf, hF⟩ := ml_fin hf hF
          have hF : t7 = r0 := hF
          rw [hF] at hf
          exact w89 x7 g_fromBase g_span H locs ls hf hP hD hS (lv_sub hl [4] rfl)
        · have hf := br_neg c6 hf
          refine lv_lload hx hb dX0_hasAll_67 (lv_at hl 4 rfl) ?_
          refine lv_lload hx hb dX0_hasAll_69 (lv_at hl 3 rfl) ?_
          refine lv_iload hx hb dX0_hasAll_71 (lv_at hl 5 rfl) ?_
          refine lv_iload_n hx hb dX0_hasAll_73 rfl (lv_at hl 1 rfl) ?_
          refine lv_imul hx hb dX0_hasAll_74 ?_
          refine lv_lshl hx hb dX0_hasAll_75 rfl ?_
          refine lv_ldc2 (v := -1) hx hb hown z3 dX0_hasAll_76 ?_
          refine lv_lxor hx hb dX0_hasAll_79 ?_
          refine lv_land hx hb dX0_hasAll_80 ?_
          refine lv_topl (fun y8 ey8 => ?_)
          have hf := lt_some hf y8 ey8
          refine lv_lstore (lv' := [(7, .long y8), (0, .ref a_this), (2, .int x2), (4, .int x4), (5, .long x5), (9, .int x9)]) hx hb dX0_hasAll_81 hl (by decide) rfl (fun ls hl => ?_)
          obtain ⟨y9, ey9⟩ : ∃ z : Int32, z = x9 + (1 : Int32) := ⟨_, rfl⟩
          have hf := lt_some hf y9 ey9
          refine lv_iinc (v := y9) (lv' := [(9, .int y9), (7, .long y8), (0, .ref a_this), (2, .int x2), (4, .int x4), (5, .long x5)]) hx hb dX0_hasAll_83 hl (k := 5) rfl (by rw [ey9]; rfl) (by decide) rfl (fun ls hl => ?_)
          refine lv_goto (tgt := 49) hx hb dX0_hasAll_86 (by decide) ?_
          cases hf
          exact ((congrFun eF49 _).mp hF) H locs ls hP hD hS (lv_sub hl [2, 3, 4, 5, 1, 0] rfl)
    intro x7 x9 t H locs ls hf hF hP hD hS hl
    exact ((congrFun eF49 _).mp (key ((x7, x9)) t hf hF)) H locs ls hP hD hS hl
  have w40 : ∀ (x2 : Int32) (x4 : Int32) (x5 : Int64) (g_fromBase : Int64) (g_span : Int32) (H : Heap) (locs : List Loc) (ls : Array Slot), bX0_hasAll_40 x2 x4 x5 g_fromBase g_span = some r0 → va_P D vwCl [(a_this, .inr (0, [.ref a_factors, .long g_sought, .int g_found, .long g_fromBase, .int g_base, .int g_span, .int g_widest, .int g_firstStep, .int g_secondStep, .int g_firstLength, .int g_secondLength]))] H → va_D A [(a_this, .inr (0, [.ref a_factors, .long g_sought, .int g_found, .long g_fromBase, .int g_base, .int g_span, .int g_widest, .int g_firstStep, .int g_secondStep, .int g_firstLength, .int g_secondLength]))] → va_S A s.heap H locs → lv_has ls 10 [(0, .ref a_this), (2, .int x2), (4, .int x4), (5, .long x5)] → W p l e rmX0_hasAll s m ([.ref a_this, .int q1, .int q2, .int q3, .int q4] : List Value).toArray below meth c H locs 0 0 (MQ below (cQi D r0 A [(a_this, .inr (0, [.ref a_factors, .long g_sought, .int g_found, .long g_fromBase, .int g_base, .int g_span, .int g_widest, .int g_firstStep, .int g_secondStep, .int g_firstLength, .int g_secondLength]))]) ([.ref a_this, .int q1, .int q2, .int q3, .int q4] : List Value).toArray s 0 0 A) (F0 m 40 ls []) := by
    intro x2 x4 x5 g_fromBase g_span H locs ls hf hP hD hS hl
    unfold bX0_hasAll_40 at hf
    refine lv_aload_n hx hb dX0_hasAll_40 rfl (lv_at hl 0 rfl) ?_
    refine va_get (D := D) (ci := 0) (v := .long g_fromBase) (C := RX0) (T := TX0) (N := 11) hx hb hts z1 hown hN.1 hP 0 rfl rfl 3 (by decide) z4 (fun _ h9 => h9) rfl dX0_hasAll_41 ?_
    refine lv_lstore (lv' := [(7, .long g_fromBase), (0, .ref a_this), (2, .int x2), (4, .int x4), (5, .long x5)]) hx hb dX0_hasAll_44 hl (by decide) rfl (fun ls hl => ?_)
    refine lv_iconst (v := 0) hx hb dX0_hasAll_46 (by decide) ?_
    refine lv_istore (lv' := [(9, .int (0 : Int32)), (7, .long g_fromBase), (0, .ref a_this), (2, .int x2), (4, .int x4), (5, .long x5)]) hx hb dX0_hasAll_47 hl (by decide) rfl (fun ls hl => ?_)
    exact w49 x2 x4 x5 g_fromBase g_span g_fromBase (0 : Int32) r0 H locs ls hf rfl hP hD hS (lv_sub hl [2, 3, 4, 5, 1, 0] rfl)
  have w6 : ∀ (x1 : Int32) (x2 : Int32) (x3 : Int32) (x4 : Int32) (g_fromBase : Int64) (g_span : Int32) (x5 : Int64) (x7 : Int32) (t : Int32) (H : Heap) (locs : List Loc) (ls : Array Slot), run (sX0_hasAll_6 x1 x2 x3 x4 g_fromBase g_span) ((x5, x7)) = some t → (fun z => z = r0) t → va_P D vwCl [(a_this, .inr (0, [.ref a_factors, .long g_sought, .int g_found, .long g_fromBase, .int g_base, .int g_span, .int g_widest, .int g_firstStep, .int g_secondStep, .int g_firstLength, .int g_secondLength]))] H → va_D A [(a_this, .inr (0, [.ref a_factors, .long g_sought, .int g_found, .long g_fromBase, .int g_base, .int g_span, .int g_widest, .int g_firstStep, .int g_secondStep, .int g_firstLength, .int g_secondLength]))] → va_S A s.heap H locs → lv_has ls 10 [(0, .ref a_this), (1, .int x1), (2, .int x2), (3, .int x3), (4, .int x4), (5, .long x5), (7, .int x7)] → W p l e rmX0_hasAll s m ([.ref a_this, .int q1, .int q2, .int q3, .int q4] : List Value).toArray below meth c H locs 0 0 (MQ below (cQi D r0 A [(a_this, .inr (0, [.ref a_factors, .long g_sought, .int g_found, .long g_fromBase, .int g_base, .int g_span, .int g_widest, .int g_firstStep, .int g_secondStep, .int g_firstLength, .int g_secondLength]))]) ([.ref a_this, .int q1, .int q2, .int q3, .int q4] : List Value).toArray s 0 0 A) (F0 m 6 ls []) := by
    intro x1 x2 x3 x4 g_fromBase g_span
    obtain ⟨F6, eF6⟩ : ∃ F : (Int64 × Int32) → Prop, F = fun q => ∀ (H : Heap) (locs : List Loc) (ls : Array Slot), va_P D vwCl [(a_this, .inr (0, [.ref a_factors, .long g_sought, .int g_found, .long g_fromBase, .int g_base, .int g_span, .int g_widest, .int g_firstStep, .int g_secondStep, .int g_firstLength, .int g_secondLength]))] H → va_D A [(a_this, .inr (0, [.ref a_factors, .long g_sought, .int g_found, .long g_fromBase, .int g_base, .int g_span, .int g_widest, .int g_firstStep, .int g_secondStep, .int g_firstLength, .int g_secondLength]))] → va_S A s.heap H locs → lv_has ls 10 [(0, .ref a_this), (1, .int x1), (2, .int x2), (3, .int x3), (4, .int x4), (5, .long q.1), (7, .int q.2)] → W p l e rmX0_hasAll s m ([.ref a_this, .int q1, .int q2, .int q3, .int q4] : List Value).toArray below meth c H locs 0 0 (MQ below (cQi D r0 A [(a_this, .inr (0, [.ref a_factors, .long g_sought, .int g_found, .long g_fromBase, .int g_base, .int g_span, .int g_widest, .int g_firstStep, .int g_secondStep, .int g_firstLength, .int g_secondLength]))]) ([.ref a_this, .int q1, .int q2, .int q3, .int q4] : List Value).toArray s 0 0 A) (F0 m 6 ls []) := ⟨_, rfl⟩
    have key : ∀ (q : Int64 × Int32) (t : Int32), run (sX0_hasAll_6 x1 x2 x3 x4 g_fromBase g_span) q = some t → (fun z => z = r0) t → F6 q := by
      refine loop_rule (sX0_hasAll_6 x1 x2 x3 x4 g_fromBase g_span) F6 (fun z => z = r0) ?_
      intro q t hf hF
      have hF : (Sum.elim F6 (fun z => z = r0)) t := hF
      rw [eF6]
      obtain ⟨x5, x7⟩ := q
      intro H locs ls hP hD hS hl
      have hP : va_P D vwCl [(a_this, .inr (0, [.ref a_factors, .long g_sought, .int g_found, .long g_fromBase, .int g_base, .int g_span, .int g_widest, .int g_firstStep, .int g_secondStep, .int g_firstLength, .int g_secondLength]))] H := hP
      have hD : va_D A [(a_this, .inr (0, [.ref a_factors, .long g_sought, .int g_found, .long g_fromBase, .int g_base, .int g_span, .int g_widest, .int g_firstStep, .int g_secondStep, .int g_firstLength, .int g_secondLength]))] := hD
      have hl : lv_has ls 10 [(0, .ref a_this), (1, .int x1), (2, .int x2), (3, .int x3), (4, .int x4), (5, .long x5), (7, .int x7)] := hl
      have hf : bX0_hasAll_6 x1 x2 x3 x4 g_fromBase g_span x5 x7 = some t := hf
      unfold bX0_hasAll_6 at hf
      refine lv_iload hx hb dX0_hasAll_6 (lv_at hl 6 rfl) ?_
      refine lv_iload_n hx hb dX0_hasAll_8 rfl (lv_at hl 3 rfl) ?_
      refine lv_icmp_ge (tgt := 40) hx hb dX0_hasAll_9 (by decide) (fun c10 => ?_) (fun c10 => ?_)
      · have hf := br_pos c10 hf
        obtain ⟨t11, hf, hF⟩ := ml_fin hf hF
        have hF : t11 = r0 := hF
        rw [hF] at hf
        exact w40 x2 x4 x5 g_fromBase g_span H locs ls hf hP hD hS (lv_sub hl [0, 2, 4, 5] rfl)
      · have hf := br_neg c10 hf
        refine lv_iload hx hb dX0_hasAll_12 (lv_at hl 6 rfl) ?_
        refine lv_iload_n hx hb dX0_hasAll_14 rfl (lv_at hl 1 rfl) ?_
        refine lv_imul hx hb dX0_hasAll_15 ?_
        refine lv_aload_n hx hb dX0_hasAll_16 rfl (lv_at hl 0 rfl) ?_
        refine va_get (D := D) (ci := 0) (v := .int g_span) (C := RX0) (T := TX0) (N := 11) hx hb hts z1 hown hN.1 hP 0 rfl rfl 5 (by decide) z2 (fun _ h9 => h9) rfl dX0_hasAll_17 ?_
        refine lv_icmp_gt (tgt := 40) hx hb dX0_hasAll_20 (by decide) (fun c12 => ?_) (fun c12 => ?_)
        · have hf := br_pos c12 hf
          obtain ⟨t13, hf, hF⟩ := ml_fin hf hF
          have hF : t13 = r0 := hF
          rw [hF] at hf
          exact w40 x2 x4 x5 g_fromBase g_span H locs ls hf hP hD hS (lv_sub hl [0, 2, 4, 5] rfl)
        · have hf := br_neg c12 hf
          refine lv_lload hx hb dX0_hasAll_23 (lv_at hl 5 rfl) ?_
          refine lv_lconst (v := 1) hx hb dX0_hasAll_25 (by decide) ?_
          refine lv_iload hx hb dX0_hasAll_26 (lv_at hl 6 rfl) ?_
          refine lv_iload_n hx hb dX0_hasAll_28 rfl (lv_at hl 1 rfl) ?_
          refine lv_imul hx hb dX0_hasAll_29 ?_
          refine lv_lshl hx hb dX0_hasAll_30 rfl ?_
          refine lv_lor hx hb dX0_hasAll_31 ?_
          refine lv_topl (fun y14 ey14 => ?_)
          have hf := lt_some hf y14 ey14
          refine lv_lstore (lv' := [(5, .long y14), (0, .ref a_this), (1, .int x1), (2, .int x2), (3, .int x3), (4, .int x4), (7, .int x7)]) hx hb dX0_hasAll_32 hl (by decide) rfl (fun ls hl => ?_)
          obtain ⟨y15, ey15⟩ : ∃ z : Int32, z = x7 + (1 : Int32) := ⟨_, rfl⟩
          have hf := lt_some hf y15 ey15
          refine lv_iinc (v := y15) (lv' := [(7, .int y15), (5, .long y14), (0, .ref a_this), (1, .int x1), (2, .int x2), (3, .int x3), (4, .int x4)]) hx hb dX0_hasAll_34 hl (k := 6) rfl (by rw [ey15]; rfl) (by decide) rfl (fun ls hl => ?_)
          refine lv_goto (tgt := 6) hx hb dX0_hasAll_37 (by decide) ?_
          cases hf
          exact ((congrFun eF6 _).mp hF) H locs ls hP hD hS (lv_sub hl [2, 3, 4, 5, 6, 1, 0] rfl)
    intro x5 x7 t H locs ls hf hF hP hD hS hl
    exact ((congrFun eF6 _).mp (key ((x5, x7)) t hf hF)) H locs ls hP hD hS hl
  unfold fX0_hasAll at hf
  obtain ⟨H, eH⟩ : ∃ z, z = s.heap := ⟨_, rfl⟩
  obtain ⟨locs, eL⟩ : ∃ z : List Loc, z = [] := ⟨_, rfl⟩
  have hP : va_P D vwCl [(a_this, .inr (0, [.ref a_factors, .long g_sought, .int g_found, .long g_fromBase, .int g_base, .int g_span, .int g_widest, .int g_firstStep, .int g_secondStep, .int g_firstLength, .int g_secondLength]))] H := by rw [eH]; exact hP
  have hS : va_S A s.heap H locs := by rw [eH, eL]; exact hS
  suffices hG : W p l e rmX0_hasAll s m ([.ref a_this, .int q1, .int q2, .int q3, .int q4] : List Value).toArray below meth c H locs 0 0 (MQ below (cQi D r0 A [(a_this, .inr (0, [.ref a_factors, .long g_sought, .int g_found, .long g_fromBase, .int g_base, .int g_span, .int g_widest, .int g_firstStep, .int g_secondStep, .int g_firstLength, .int g_secondLength]))]) ([.ref a_this, .int q1, .int q2, .int q3, .int q4] : List Value).toArray s 0 0 A) (F0 m 0 ls []) by rw [eH, eL] at hG; exact hG
  refine lv_lconst (v := 0) hx hb dX0_hasAll_0 (by decide) ?_
  refine lv_lstore (lv' := [(5, .long (0 : Int64)), (0, .ref a_this), (1, .int q1), (2, .int q2), (3, .int q3), (4, .int q4)]) hx hb dX0_hasAll_1 hl (by decide) rfl (fun ls hl => ?_)
  refine lv_iconst (v := 0) hx hb dX0_hasAll_3 (by decide) ?_
  refine lv_istore (lv' := [(7, .int (0 : Int32)), (5, .long (0 : Int64)), (0, .ref a_this), (1, .int q1), (2, .int q2), (3, .int q3), (4, .int q4)]) hx hb dX0_hasAll_4 hl (by decide) rfl (fun ls hl => ?_)
  exact w6 q1 q2 q3 q4 g_fromBase g_span (0 : Int64) (0 : Int32) r0 H locs ls hf rfl hP hD hS (lv_sub hl [2, 3, 4, 5, 6, 1, 0] rfl)
abbrev rmX7_greatestDivisor : Room := { frames := 0, cells := 0, slots := 0, locals := 0 }
noncomputable def bX7_greatestDivisor_7 (x2 : Int32) (x3 : Int32) (x4 : Int32) : Option ((Int32 × Int32 × Int32) ⊕ (Int32)) := br ((64 : Int32) ≤ x4) (some (Sum.inr (x2))) (br (x3 = 0) (some (Sum.inr (x2))) (gd (¬ x3 = 0) (lt_ (x2 - x2 / x3 * x3) (fun y4 => lt_ (x4 + (1 : Int32)) (fun y5 => some (Sum.inl ((x3, y4, y5))))))))
noncomputable def sX7_greatestDivisor_7 : (Int32 × Int32 × Int32) → Option ((Int32 × Int32 × Int32) ⊕ (Int32)) := fun q => bX7_greatestDivisor_7 q.1 q.2.1 q.2.2
noncomputable def fX7_greatestDivisor (q0 : Int32) (q1 : Int32) : Option (Int32) := run (sX7_greatestDivisor_7) ((q0, q1, (0 : Int32)))
set_option maxHeartbeats 4000000 in
set_option maxRecDepth 100000 in
theorem cX7_greatestDivisor_ct (l : Launch) (D : va_G) (cI cL cC cZ : ClassId) (q0 : Int32) (q1 : Int32) (r0 : Int32) (hf : fX7_greatestDivisor q0 q1 = some r0) : CtI l yX7_greatestDivisor wsX7_greatestDivisor rmX7_greatestDivisor D (tyz cI cL cC cZ) [.int q0, .int q1] [] [] r0 := by
  refine CtI.make (cc := cX7_greatestDivisor) (maxL := 6) (ty := .int) (by decide) rfl (Nat.le_of_ble_eq_true rfl) ?_
  intro p e s m below meth c A ls C0 hN hA hP hD hl
  obtain ⟨hx, hb, hr, hml, hown, hts, hlk⟩ := id C0
  have hown : s.vm.findClass RX7 = some m.cls := hown
  have hS : va_S A s.heap s.heap [] := va_S.rf
  have hP : va_P D vwCl [] s.heap := hP
  have hD : va_D A [] := hD
  have hl : lv_has ls 6 [(0, .int q0), (1, .int q1)] := hl
  have w7 : ∀ (x2 : Int32) (x3 : Int32) (x4 : Int32) (t : Int32) (H : Heap) (locs : List Loc) (ls : Array Slot), run (sX7_greatestDivisor_7) ((x2, x3, x4)) = some t → (fun z => z = r0) t → va_P D vwCl [] H → va_D A [] → va_S A s.heap H locs → lv_has ls 6 [(2, .int x2), (3, .int x3), (4, .int x4)] → W p l e rmX7_greatestDivisor s m ([.int q0, .int q1] : List Value).toArray below meth c H locs 0 0 (MQ below (cQi D r0 A []) ([.int q0, .int q1] : List Value).toArray s 0 0 A) (F0 m 7 ls []) := by
    obtain ⟨F7, eF7⟩ : ∃ F : (Int32 × Int32 × Int32) → Prop, F = fun q => ∀ (H : Heap) (locs : List Loc) (ls : Array Slot), va_P D vwCl [] H → va_D A [] → va_S A s.heap H locs → lv_has ls 6 [(2, .int q.1), (3, .int q.2.1), (4, .int q.2.2)] → W p l e rmX7_greatestDivisor s m ([.int q0, .int q1] : List Value).toArray below meth c H locs 0 0 (MQ below (cQi D r0 A []) ([.int q0, .int q1] : List Value).toArray s 0 0 A) (F0 m 7 ls []) := ⟨_, rfl⟩
    have key : ∀ (q : Int32 × Int32 × Int32) (t : Int32), run (sX7_greatestDivisor_7) q = some t → (fun z => z = r0) t → F7 q := by
      refine loop_rule (sX7_greatestDivisor_7) F7 (fun z => z = r0) ?_
      intro q t hf hF
      have hF : (Sum.elim F7 (fun z => z = r0)) t := hF
      rw [eF7]
      obtain ⟨x2, x3, x4⟩ := q
      intro H locs ls hP hD hS hl
      have hP : va_P D vwCl [] H := hP
      have hD : va_D A [] := hD
      have hl : lv_has ls 6 [(2, .int x2), (3, .int x3), (4, .int x4)] := hl
      have hf : bX7_greatestDivisor_7 x2 x3 x4 = some t := hf
      unfold bX7_greatestDivisor_7 at hf
      refine lv_iload hx hb dX7_greatestDivisor_7 (lv_at hl 2 rfl) ?_
      refine lv_bipush (v := 64) hx hb dX7_greatestDivisor_9 (by decide) ?_
      refine lv_icmp_ge (tgt := 34) hx hb dX7_greatestDivisor_11 (by decide) (fun c1 => ?_) (fun c1 => ?_)
      · have hf := br_pos c1 hf
        refine lv_iload_n hx hb dX7_greatestDivisor_34 rfl (lv_at hl 0 rfl) ?_
        cases hf
        have hE : x2 = r0 := hF
        subst hE
        exact rtI hx hb hr hlk hP hD hS dX7_greatestDivisor_35
      · have hf := br_neg c1 hf
        refine lv_iload_n hx hb dX7_greatestDivisor_14 rfl (lv_at hl 1 rfl) ?_
        refine lv_if_eq (tgt := 34) hx hb dX7_greatestDivisor_15 (by decide) (fun c2 => ?_) (fun c2 => ?_)
        · have hf := br_pos c2 hf
          refine lv_iload_n hx hb dX7_greatestDivisor_34 rfl (lv_at hl 0 rfl) ?_
          cases hf
          have hE : x2 = r0 := hF
          subst hE
          exact rtI hx hb hr hlk hP hD hS dX7_greatestDivisor_35
        · have hf := br_neg c2 hf
          refine lv_iload_n hx hb dX7_greatestDivisor_18 rfl (lv_at hl 0 rfl) ?_
          refine lv_iload_n hx hb dX7_greatestDivisor_19 rfl (lv_at hl 1 rfl) ?_
          obtain ⟨c3, hf⟩ := gd_some hf
          refine lv_irem hx hb dX7_greatestDivisor_20 c3 ?_
          refine lv_topi (fun y4 ey4 => ?_)
          have hf := lt_some hf y4 ey4
          refine lv_istore (lv' := [(5, .int y4), (2, .int x2), (3, .int x3), (4, .int x4)]) hx hb dX7_greatestDivisor_21 hl (by decide) rfl (fun ls hl => ?_)
          refine lv_iload_n hx hb dX7_greatestDivisor_23 rfl (lv_at hl 2 rfl) ?_
          refine lv_istore_n (lv' := [(2, .int x3), (5, .int y4), (3, .int x3), (4, .int x4)]) hx hb dX7_greatestDivisor_24 rfl hl (by decide) rfl (fun ls hl => ?_)
          refine lv_iload hx hb dX7_greatestDivisor_25 (lv_at hl 1 rfl) ?_
          refine lv_istore_n (lv' := [(3, .int y4), (2, .int x3), (5, .int y4), (4, .int x4)]) hx hb dX7_greatestDivisor_27 rfl hl (by decide) rfl (fun ls hl => ?_)
          obtain ⟨y5, ey5⟩ : ∃ z : Int32, z = x4 + (1 : Int32) := ⟨_, rfl⟩
          have hf := lt_some hf y5 ey5
          refine lv_iinc (v := y5) (lv' := [(4, .int y5), (3, .int y4), (2, .int x3), (5, .int y4)]) hx hb dX7_greatestDivisor_28 hl (k := 3) rfl (by rw [ey5]; rfl) (by decide) rfl (fun ls hl => ?_)
          refine lv_goto (tgt := 7) hx hb dX7_greatestDivisor_31 (by decide) ?_
          cases hf
          exact ((congrFun eF7 _).mp hF) H locs ls hP hD hS (lv_sub hl [2, 1, 0] rfl)
    intro x2 x3 x4 t H locs ls hf hF hP hD hS hl
    exact ((congrFun eF7 _).mp (key ((x2, x3, x4)) t hf hF)) H locs ls hP hD hS hl
  unfold fX7_greatestDivisor at hf
  obtain ⟨H, eH⟩ : ∃ z, z = s.heap := ⟨_, rfl⟩
  obtain ⟨locs, eL⟩ : ∃ z : List Loc, z = [] := ⟨_, rfl⟩
  have hP : va_P D vwCl [] H := by rw [eH]; exact hP
  have hS : va_S A s.heap H locs := by rw [eH, eL]; exact hS
  suffices hG : W p l e rmX7_greatestDivisor s m ([.int q0, .int q1] : List Value).toArray below meth c H locs 0 0 (MQ below (cQi D r0 A []) ([.int q0, .int q1] : List Value).toArray s 0 0 A) (F0 m 0 ls []) by rw [eH, eL] at hG; exact hG
  refine lv_iload_n hx hb dX7_greatestDivisor_0 rfl (lv_at hl 0 rfl) ?_
  refine lv_istore_n (lv' := [(2, .int q0), (0, .int q0), (1, .int q1)]) hx hb dX7_greatestDivisor_1 rfl hl (by decide) rfl (fun ls hl => ?_)
  refine lv_iload_n hx hb dX7_greatestDivisor_2 rfl (lv_at hl 2 rfl) ?_
  refine lv_istore_n (lv' := [(3, .int q1), (2, .int q0), (0, .int q0), (1, .int q1)]) hx hb dX7_greatestDivisor_3 rfl hl (by decide) rfl (fun ls hl => ?_)
  refine lv_iconst (v := 0) hx hb dX7_greatestDivisor_4 (by decide) ?_
  refine lv_istore (lv' := [(4, .int (0 : Int32)), (3, .int q1), (2, .int q0), (0, .int q0), (1, .int q1)]) hx hb dX7_greatestDivisor_5 hl (by decide) rfl (fun ls hl => ?_)
  exact w7 q0 q1 (0 : Int32) r0 H locs ls hf rfl hP hD hS (lv_sub hl [2, 1, 0] rfl)
abbrev rmX0_tellsEachOnce : Room := { frames := 1, cells := 0, slots := 0, locals := 25 }
noncomputable def bX0_tellsEachOnce_28 : Option (Int32) := gd ((1 : Int32) = 0 ∨ (1 : Int32) = 1) (some ((1 : Int32)))
noncomputable def bX0_tellsEachOnce_32 : Option (Int32) := gd ((0 : Int32) = 0 ∨ (0 : Int32) = 1) (some ((0 : Int32)))
noncomputable def fX0_tellsEachOnce (q0 : Int32) (q1 : Int32) (q2 : Int32) (q3 : Int32) : Option (Int32) := bd (fX7_greatestDivisor q0 q1) (fun u3 => br (u3 ≤ 0) (bX0_tellsEachOnce_32) (gd (¬ u3 = 0) (lt_ (q1 / u3) (fun y6 => br (q2 ≤ y6) (bX0_tellsEachOnce_28) (gd (¬ u3 = 0) (lt_ (q0 / u3) (fun y9 => br (y9 < q3) (bX0_tellsEachOnce_32) (bX0_tellsEachOnce_28))))))))
set_option maxHeartbeats 4000000 in
set_option maxRecDepth 100000 in
theorem cX0_tellsEachOnce_ct (l : Launch) (D : va_G) (cI cL cC cZ : ClassId) (q0 : Int32) (q1 : Int32) (q2 : Int32) (q3 : Int32) (r0 : Int32) (hf : fX0_tellsEachOnce q0 q1 q2 q3 = some r0) : CtI l yX0_tellsEachOnce wsX0_tellsEachOnce rmX0_tellsEachOnce D (tyz cI cL cC cZ) [.int q0, .int q1, .int q2, .int q3] [] [] r0 := by
  refine CtI.make (cc := cX0_tellsEachOnce) (maxL := 5) (ty := .boolean) (by decide) rfl (Nat.le_of_ble_eq_true rfl) ?_
  intro p e s m below meth c A ls C0 hN hA hP hD hl
  obtain ⟨hx, hb, hr, hml, hown, hts, hlk⟩ := id C0
  have hown : s.vm.findClass RX0 = some m.cls := hown
  have hS : va_S A s.heap s.heap [] := va_S.rf
  have hP : va_P D vwCl [] s.heap := hP
  have hD : va_D A [] := hD
  have hl : lv_has ls 5 [(0, .int q0), (1, .int q1), (2, .int q2), (3, .int q3)] := hl
  have z1 := va_cnB (R := rmX0_tellsEachOnce) (rm := rmX7_greatestDivisor) (mc := 0) (ms := 0) 2 hts ggX0_tellsEachOnce_X7_greatestDivisor rfl rfl rfl (hN.2 (RX0, 90, yX7_greatestDivisor, "LittleSums") (by decide +kernel)) (hts (.initialized RX7) (by decide +kernel)) (by decide +kernel) ⟨Nat.le_of_ble_eq_true rfl, Nat.le_of_ble_eq_true rfl⟩
  have z2 := hts (.static yX7_greatestDivisor) (by decide +kernel)
  have w28 : ∀ (H : Heap) (locs : List Loc) (ls : Array Slot), bX0_tellsEachOnce_28 = some r0 → va_P D vwCl [] H → va_D A [] → va_S A s.heap H locs → lv_has ls 5 [] → W p l e rmX0_tellsEachOnce s m ([.int q0, .int q1, .int q2, .int q3] : List Value).toArray below meth c H locs 0 0 (MQ below (cQi D r0 A []) ([.int q0, .int q1, .int q2, .int q3] : List Value).toArray s 0 0 A) (F0 m 28 ls []) := by
    intro  H locs ls hf hP hD hS hl
    unfold bX0_tellsEachOnce_28 at hf
    refine lv_iconst (v := 1) hx hb dX0_tellsEachOnce_28 (by decide) ?_
    refine lv_goto (tgt := 33) hx hb dX0_tellsEachOnce_29 (by decide) ?_
    obtain ⟨c1, hf⟩ := gd_some hf
    have hE : (1 : Int32) = r0 := Option.some.inj hf
    subst hE
    exact rtZ hx hb hr hlk c1 hP hD hS dX0_tellsEachOnce_33
  have w32 : ∀ (H : Heap) (locs : List Loc) (ls : Array Slot), bX0_tellsEachOnce_32 = some r0 → va_P D vwCl [] H → va_D A [] → va_S A s.heap H locs → lv_has ls 5 [] → W p l e rmX0_tellsEachOnce s m ([.int q0, .int q1, .int q2, .int q3] : List Value).toArray below meth c H locs 0 0 (MQ below (cQi D r0 A []) ([.int q0, .int q1, .int q2, .int q3] : List Value).toArray s 0 0 A) (F0 m 32 ls []) := by
    intro  H locs ls hf hP hD hS hl
    unfold bX0_tellsEachOnce_32 at hf
    refine lv_iconst (v := 0) hx hb dX0_tellsEachOnce_32 (by decide) ?_
    obtain ⟨c2, hf⟩ := gd_some hf
    have hE : (0 : Int32) = r0 := Option.some.inj hf
    subst hE
    exact rtZ hx hb hr hlk c2 hP hD hS dX0_tellsEachOnce_33
  unfold fX0_tellsEachOnce at hf
  obtain ⟨H, eH⟩ : ∃ z, z = s.heap := ⟨_, rfl⟩
  obtain ⟨locs, eL⟩ : ∃ z : List Loc, z = [] := ⟨_, rfl⟩
  have hP : va_P D vwCl [] H := by rw [eH]; exact hP
  have hS : va_S A s.heap H locs := by rw [eH, eL]; exact hS
  suffices hG : W p l e rmX0_tellsEachOnce s m ([.int q0, .int q1, .int q2, .int q3] : List Value).toArray below meth c H locs 0 0 (MQ below (cQi D r0 A []) ([.int q0, .int q1, .int q2, .int q3] : List Value).toArray s 0 0 A) (F0 m 0 ls []) by rw [eH, eL] at hG; exact hG
  refine lv_iload_n hx hb dX0_tellsEachOnce_0 rfl (lv_at hl 0 rfl) ?_
  refine lv_iload_n hx hb dX0_tellsEachOnce_1 rfl (lv_at hl 1 rfl) ?_
  obtain ⟨u3, hu3, hf⟩ := bd_some hf
  refine caNI (rest := []) (As := [.int q0, .int q1]) (wr := []) (wo := []) ⟨hx, hb, hml, hown, hts⟩ hN hP hD hS hA (cX7_greatestDivisor_ct l D cI cL cC cZ q0 q1 u3 hu3) ⟨z1, z2, trivial⟩ [] [] [] rfl (by decide) rfl (by decide) (by decide) rfl (by decide) rfl hl.1 rfl (Nat.le_of_ble_eq_true rfl) dX0_tellsEachOnce_2 ⟨Nat.zero_le _, Nat.zero_le _⟩ (fun H locs hP hD hS => ?_)
  refine lv_istore (lv' := [(4, .int u3), (0, .int q0), (1, .int q1), (2, .int q2), (3, .int q3)]) hx hb dX0_tellsEachOnce_5 hl (by decide) rfl (fun ls hl => ?_)
  refine lv_iload hx hb dX0_tellsEachOnce_7 (lv_at hl 0 rfl) ?_
  refine lv_if_le (tgt := 32) hx hb dX0_tellsEachOnce_9 (by decide) (fun c4 => ?_) (fun c4 => ?_)
  · have hf := br_pos c4 hf
    exact w32  H locs ls hf hP hD hS (lv_sub hl [] rfl)
  · have hf := br_neg c4 hf
    refine lv_iload_n hx hb dX0_tellsEachOnce_12 rfl (lv_at hl 2 rfl) ?_
    refine lv_iload hx hb dX0_tellsEachOnce_13 (lv_at hl 0 rfl) ?_
    obtain ⟨c5, hf⟩ := gd_some hf
    refine lv_idiv hx hb dX0_tellsEachOnce_15 c5 ?_
    refine lv_topi (fun y6 ey6 => ?_)
    have hf := lt_some hf y6 ey6
    refine lv_iload_n hx hb dX0_tellsEachOnce_16 rfl (lv_at hl 3 rfl) ?_
    refine lv_icmp_ge (tgt := 28) hx hb dX0_tellsEachOnce_17 (by decide) (fun c7 => ?_) (fun c7 => ?_)
    · have hf := br_pos c7 hf
      exact w28  H locs ls hf hP hD hS (lv_sub hl [] rfl)
    · have hf := br_neg c7 hf
      refine lv_iload_n hx hb dX0_tellsEachOnce_20 rfl (lv_at hl 1 rfl) ?_
      refine lv_iload hx hb dX0_tellsEachOnce_21 (lv_at hl 0 rfl) ?_
      obtain ⟨c8, hf⟩ := gd_some hf
      refine lv_idiv hx hb dX0_tellsEachOnce_23 c8 ?_
      refine lv_topi (fun y9 ey9 => ?_)
      have hf := lt_some hf y9 ey9
      refine lv_iload_n hx hb dX0_tellsEachOnce_24 rfl (lv_at hl 4 rfl) ?_
      refine lv_icmp_lt (tgt := 32) hx hb dX0_tellsEachOnce_25 (by decide) (fun c10 => ?_) (fun c10 => ?_)
      · have hf := br_pos c10 hf
        exact w32  H locs ls hf hP hD hS (lv_sub hl [] rfl)
      · have hf := br_neg c10 hf
        exact w28  H locs ls hf hP hD hS (lv_sub hl [] rfl)
abbrev rmX0_seekLengths : Room := { frames := 2, cells := 0, slots := 0, locals := 49 }
noncomputable def bX0_seekLengths_93 (x1 : Int32) (x2 : Int32) (x3 : Int32) (x4 : Int32) (g_fromBase : Int64) (g_span : Int32) (g_widest : Int32) (g_firstStep : Int32) (g_secondStep : Int32) (g_firstLength : Int32) (g_secondLength : Int32) (g_factors : Nat → Int32) : Option ((Int32) ⊕ (Int32 × Int32 × Int32 × Int32 × Int32)) := lt_ (x4 + (1 : Int32)) (fun y1 => some (Sum.inl y1))
noncomputable def bX0_seekLengths_3 (x1 : Int32) (x2 : Int32) (x3 : Int32) (g_fromBase : Int64) (g_span : Int32) (g_widest : Int32) (g_firstStep : Int32) (g_secondStep : Int32) (g_firstLength : Int32) (g_secondLength : Int32) (g_factors : Nat → Int32) (x4 : Int32) : Option ((Int32) ⊕ (Int32 × Int32 × Int32 × Int32 × Int32)) := br (x3 ≤ x4) (gd ((0 : Int32) = 0 ∨ (0 : Int32) = 1) (some (Sum.inr (((0 : Int32), g_firstStep, g_secondStep, g_firstLength, g_secondLength))))) (gd (¬ x4 < 0 ∧ x4.toNatClampNeg < 10) (lt_ (g_factors x4.toNatClampNeg) (fun y5 => gd (¬ ((x3 - (1 : Int32)) - x4) < 0 ∧ ((x3 - (1 : Int32)) - x4).toNatClampNeg < 10) (lt_ (g_factors ((x3 - (1 : Int32)) - x4).toNatClampNeg) (fun y7 => bd (fX0_reaches x1 x2 y5 y7 g_span g_widest) (fun u8 => br (u8 = 0) (bX0_seekLengths_93 x1 x2 x3 x4 g_fromBase g_span g_widest g_firstStep g_secondStep g_firstLength g_secondLength g_factors) (bd (fX0_hasAll x1 x2 y5 y7 g_fromBase g_span) (fun u10 => br (u10 = 0) (bX0_seekLengths_93 x1 x2 x3 x4 g_fromBase g_span g_widest g_firstStep g_secondStep g_firstLength g_secondLength g_factors) (bd (fX0_tellsEachOnce x1 x2 y5 y7) (fun u12 => br (u12 = 0) (bX0_seekLengths_93 x1 x2 x3 x4 g_fromBase g_span g_widest g_firstStep g_secondStep g_firstLength g_secondLength g_factors) (gd ((1 : Int32) = 0 ∨ (1 : Int32) = 1) (some (Sum.inr (((1 : Int32), x1, x2, y5, y7)))))))))))))))
noncomputable def sX0_seekLengths_3 (x1 : Int32) (x2 : Int32) (x3 : Int32) (g_fromBase : Int64) (g_span : Int32) (g_widest : Int32) (g_firstStep : Int32) (g_secondStep : Int32) (g_firstLength : Int32) (g_secondLength : Int32) (g_factors : Nat → Int32) : (Int32) → Option ((Int32) ⊕ (Int32 × Int32 × Int32 × Int32 × Int32)) := fun q => bX0_seekLengths_3 x1 x2 x3 g_fromBase g_span g_widest g_firstStep g_secondStep g_firstLength g_secondLength g_factors q
noncomputable def fX0_seekLengths (q1 : Int32) (q2 : Int32) (q3 : Int32) (g_fromBase : Int64) (g_span : Int32) (g_widest : Int32) (g_firstStep : Int32) (g_secondStep : Int32) (g_firstLength : Int32) (g_secondLength : Int32) (g_factors : Nat → Int32) : Option (Int32 × Int32 × Int32 × Int32 × Int32) := run (sX0_seekLengths_3 q1 q2 q3 g_fromBase g_span g_widest g_firstStep g_secondStep g_firstLength g_secondLength g_factors) (0 : Int32)
set_option maxHeartbeats 4000000 in
set_option maxRecDepth 100000 in
theorem cX0_seekLengths_ct (l : Launch) (D : va_G) (cI cL cC cZ : ClassId) (a_this a_factors : Nat) (g_sought : Int64) (g_found : Int32) (g_fromBase : Int64) (g_base : Int32) (g_span : Int32) (g_widest : Int32) (g_firstStep : Int32) (g_secondStep : Int32) (g_firstLength : Int32) (g_secondLength : Int32) (g_factors : Nat → Int32) (q1 : Int32) (q2 : Int32) (q3 : Int32) (r0 : Int32) (v_firstStep : Int32) (v_secondStep : Int32) (v_firstLength : Int32) (v_secondLength : Int32) (hf : fX0_seekLengths q1 q2 q3 g_fromBase g_span g_widest g_firstStep g_secondStep g_firstLength g_secondLength g_factors = some ((r0, v_firstStep, v_secondStep, v_firstLength, v_secondLength))) : CtI l yX0_seekLengths wsX0_seekLengths rmX0_seekLengths D (tyz cI cL cC cZ) [.ref a_this, .int q1, .int q2, .int q3] [(a_this, .inr (0, [.ref a_factors, .long g_sought, .int g_found, .long g_fromBase, .int g_base, .int g_span, .int g_widest, .int g_firstStep, .int g_secondStep, .int g_firstLength, .int g_secondLength])), (a_factors, .inl (cI, 10, .inl g_factors))] [(a_this, .inr (0, [.ref a_factors, .long g_sought, .int g_found, .long g_fromBase, .int g_base, .int g_span, .int g_widest, .int v_firstStep, .int v_secondStep, .int v_firstLength, .int v_secondLength])), (a_factors, .inl (cI, 10, .inl g_factors))] r0 := by
  refine CtI.make (cc := cX0_seekLengths) (maxL := 7) (ty := .boolean) (by decide) rfl (Nat.le_of_ble_eq_true rfl) ?_
  intro p e s m below meth c A ls C0 hN hA hP hD hl
  obtain ⟨hx, hb, hr, hml, hown, hts, hlk⟩ := id C0
  have hown : s.vm.findClass RX0 = some m.cls := hown
  have hS : va_S A s.heap s.heap [] := va_S.rf
  have hP : va_P D vwCl [(a_this, .inr (0, [.ref a_factors, .long g_sought, .int g_found, .long g_fromBase, .int g_base, .int g_span, .int g_widest, .int g_firstStep, .int g_secondStep, .int g_firstLength, .int g_secondLength])), (a_factors, .inl (cI, 10, .inl g_factors))] s.heap := hP
  have hD : va_D A [(a_this, .inr (0, [.ref a_factors, .long g_sought, .int g_found, .long g_fromBase, .int g_base, .int g_span, .int g_widest, .int g_firstStep, .int g_secondStep, .int g_firstLength, .int g_secondLength])), (a_factors, .inl (cI, 10, .inl g_factors))] := hD
  have hl : lv_has ls 7 [(0, .ref a_this), (1, .int q1), (2, .int q2), (3, .int q3)] := hl
  have z1 : ∀ w ∈ u_ws RX0 TX0 11, w ∈ wsX0_seekLengths := by decide +kernel
  have z2 := hts (.fieldLink RX0 11 "LittleSums$GridSearch" "factors" "[I") (by decide +kernel)
  have z3 := cwV (R := rmX0_seekLengths) (rm := rmX0_reaches) (mc := 0) (ms := 0) 4 hts gX0_seekLengths_X0_reaches rfl rfl rfl (by decide +kernel) ⟨Nat.le_of_ble_eq_true rfl, Nat.le_of_ble_eq_true rfl⟩
  have z4 := cwV (R := rmX0_seekLengths) (rm := rmX0_hasAll) (mc := 0) (ms := 0) 4 hts gX0_seekLengths_X0_hasAll rfl rfl rfl (by decide +kernel) ⟨Nat.le_of_ble_eq_true rfl, Nat.le_of_ble_eq_true rfl⟩
  have z5 := va_cwS (R := rmX0_seekLengths) (rm := rmX0_tellsEachOnce) (mc := 0) (ms := 0) 4 hts gX0_seekLengths_X0_tellsEachOnce rfl rfl rfl (by decide +kernel) ⟨Nat.le_of_ble_eq_true rfl, Nat.le_of_ble_eq_true rfl⟩
  have z6 := hts (.fieldLink RX0 19 "LittleSums$GridSearch" "firstStep" "I") (by decide +kernel)
  have z7 := hts (.fieldLink RX0 22 "LittleSums$GridSearch" "secondStep" "I") (by decide +kernel)
  have z8 := hts (.fieldLink RX0 25 "LittleSums$GridSearch" "firstLength" "I") (by decide +kernel)
  have z9 := hts (.fieldLink RX0 28 "LittleSums$GridSearch" "secondLength" "I") (by decide +kernel)
  have w3 : ∀ (x1 : Int32) (x2 : Int32) (x3 : Int32) (g_fromBase : Int64) (g_span : Int32) (g_widest : Int32) (g_firstStep : Int32) (g_secondStep : Int32) (g_firstLength : Int32) (g_secondLength : Int32) (g_factors : Nat → Int32) (x4 : Int32) (t : Int32 × Int32 × Int32 × Int32 × Int32) (H : Heap) (locs : List Loc) (ls : Array Slot), run (sX0_seekLengths_3 x1 x2 x3 g_fromBase g_span g_widest g_firstStep g_secondStep g_firstLength g_secondLength g_factors) x4 = some t → (fun z => z = (r0, v_firstStep, v_secondStep, v_firstLength, v_secondLength)) t → va_P D vwCl [(a_this, .inr (0, [.ref a_factors, .long g_sought, .int g_found, .long g_fromBase, .int g_base, .int g_span, .int g_widest, .int g_firstStep, .int g_secondStep, .int g_firstLength, .int g_secondLength])), (a_factors, .inl (cI, 10, .inl g_factors))] H → va_D A [(a_this, .inr (0, [.ref a_factors, .long g_sought, .int g_found, .long g_fromBase, .int g_base, .int g_span, .int g_widest, .int g_firstStep, .int g_secondStep, .int g_firstLength, .int g_secondLength])), (a_factors, .inl (cI, 10, .inl g_factors))] → va_S A s.heap H locs → lv_has ls 7 [(0, .ref a_this), (1, .int x1), (2, .int x2), (3, .int x3), (4, .int x4)] → W p l e rmX0_seekLengths s m ([.ref a_this, .int q1, .int q2, .int q3] : List Value).toArray below meth c H locs 0 0 (MQ below (cQi D r0 A [(a_this, .inr (0, [.ref a_factors, .long g_sought, .int g_found, .long g_fromBase, .int g_base, .int g_span, .int g_widest, .int v_firstStep, .int v_secondStep, .int v_firstLength, .int v_secondLength])), (a_factors, .inl (cI, 10, .inl g_factors))]) ([.ref a_this, .int q1, .int q2, .int q3] : List Value).toArray s 0 0 A) (F0 m 3 ls []) := by
    intro x1 x2 x3 g_fromBase g_span g_widest g_firstStep g_secondStep g_firstLength g_secondLength g_factors
    obtain ⟨F3, eF3⟩ : ∃ F : (Int32) → Prop, F = fun q => ∀ (H : Heap) (locs : List Loc) (ls : Array Slot), va_P D vwCl [(a_this, .inr (0, [.ref a_factors, .long g_sought, .int g_found, .long g_fromBase, .int g_base, .int g_span, .int g_widest, .int g_firstStep, .int g_secondStep, .int g_firstLength, .int g_secondLength])), (a_factors, .inl (cI, 10, .inl g_factors))] H → va_D A [(a_this, .inr (0, [.ref a_factors, .long g_sought, .int g_found, .long g_fromBase, .int g_base, .int g_span, .int g_widest, .int g_firstStep, .int g_secondStep, .int g_firstLength, .int g_secondLength])), (a_factors, .inl (cI, 10, .inl g_factors))] → va_S A s.heap H locs → lv_has ls 7 [(0, .ref a_this), (1, .int x1), (2, .int x2), (3, .int x3), (4, .int q)] → W p l e rmX0_seekLengths s m ([.ref a_this, .int q1, .int q2, .int q3] : List Value).toArray below meth c H locs 0 0 (MQ below (cQi D r0 A [(a_this, .inr (0, [.ref a_factors, .long g_sought, .int g_found, .long g_fromBase, .int g_base, .int g_span, .int g_widest, .int v_firstStep, .int v_secondStep, .int v_firstLength, .int v_secondLength])), (a_factors, .inl (cI, 10, .inl g_factors))]) ([.ref a_this, .int q1, .int q2, .int q3] : List Value).toArray s 0 0 A) (F0 m 3 ls []) := ⟨_, rfl⟩
    have key : ∀ (q : Int32) (t : Int32 × Int32 × Int32 × Int32 × Int32), run (sX0_seekLengths_3 x1 x2 x3 g_fromBase g_span g_widest g_firstStep g_secondStep g_firstLength g_secondLength g_factors) q = some t → (fun z => z = (r0, v_firstStep, v_secondStep, v_firstLength, v_secondLength)) t → F3 q := by
      refine loop_rule (sX0_seekLengths_3 x1 x2 x3 g_fromBase g_span g_widest g_firstStep g_secondStep g_firstLength g_secondLength g_factors) F3 (fun z => z = (r0, v_firstStep, v_secondStep, v_firstLength, v_secondLength)) ?_
      intro q t hf hF
      have hF : (Sum.elim F3 (fun z => z = (r0, v_firstStep, v_secondStep, v_firstLength, v_secondLength))) t := hF
      have w93 : ∀ (x4 : Int32) (t : (Int32) ⊕ (Int32 × Int32 × Int32 × Int32 × Int32)) (H : Heap) (locs : List Loc) (ls : Array Slot), bX0_seekLengths_93 x1 x2 x3 x4 g_fromBase g_span g_widest g_firstStep g_secondStep g_firstLength g_secondLength g_factors = some t → (Sum.elim F3 (fun z => z = (r0, v_firstStep, v_secondStep, v_firstLength, v_secondLength))) t → va_P D vwCl [(a_this, .inr (0, [.ref a_factors, .long g_sought, .int g_found, .long g_fromBase, .int g_base, .int g_span, .int g_widest, .int g_firstStep, .int g_secondStep, .int g_firstLength, .int g_secondLength])), (a_factors, .inl (cI, 10, .inl g_factors))] H → va_D A [(a_this, .inr (0, [.ref a_factors, .long g_sought, .int g_found, .long g_fromBase, .int g_base, .int g_span, .int g_widest, .int g_firstStep, .int g_secondStep, .int g_firstLength, .int g_secondLength])), (a_factors, .inl (cI, 10, .inl g_factors))] → va_S A s.heap H locs → lv_has ls 7 [(0, .ref a_this), (1, .int x1), (2, .int x2), (3, .int x3), (4, .int x4)] → W p l e rmX0_seekLengths s m ([.ref a_this, .int q1, .int q2, .int q3] : List Value).toArray below meth c H locs 0 0 (MQ below (cQi D r0 A [(a_this, .inr (0, [.ref a_factors, .long g_sought, .int g_found, .long g_fromBase, .int g_base, .int g_span, .int g_widest, .int v_firstStep, .int v_secondStep, .int v_firstLength, .int v_secondLength])), (a_factors, .inl (cI, 10, .inl g_factors))]) ([.ref a_this, .int q1, .int q2, .int q3] : List Value).toArray s 0 0 A) (F0 m 93 ls []) := by
        intro x4 t H locs ls hf hF hP hD hS hl
        unfold bX0_seekLengths_93 at hf
        obtain ⟨y1, ey1⟩ : ∃ z : Int32, z = x4 + (1 : Int32) := ⟨_, rfl⟩
        have hf := lt_some hf y1 ey1
        refine lv_iinc (v := y1) (lv' := [(4, .int y1), (0, .ref a_this), (1, .int x1), (2, .int x2), (3, .int x3)]) hx hb dX0_seekLengths_93 hl (k := 4) rfl (by rw [ey1]; rfl) (by decide) rfl (fun ls hl => ?_)
        refine lv_goto (tgt := 3) hx hb dX0_seekLengths_96 (by decide) ?_
        cases hf
        exact ((congrFun eF3 _).mp hF) H locs ls hP hD hS (lv_sub hl [1, 2, 3, 4, 0] rfl)
      rw [eF3]
      obtain ⟨x4, rfl⟩ : ∃ z, z = q := ⟨_, rfl⟩
      intro H locs ls hP hD hS hl
      have hP : va_P D vwCl [(a_this, .inr (0, [.ref a_factors, .long g_sought, .int g_found, .long g_fromBase, .int g_base, .int g_span, .int g_widest, .int g_firstStep, .int g_secondStep, .int g_firstLength, .int g_secondLength])), (a_factors, .inl (cI, 10, .inl g_factors))] H := hP
      have hD : va_D A [(a_this, .inr (0, [.ref a_factors, .long g_sought, .int g_found, .long g_fromBase, .int g_base, .int g_span, .int g_widest, .int g_firstStep, .int g_secondStep, .int g_firstLength, .int g_secondLength])), (a_factors, .inl (cI, 10, .inl g_factors))] := hD
      have hl : lv_has ls 7 [(0, .ref a_this), (1, .int x1), (2, .int x2), (3, .int x3), (4, .int x4)] := hl
      have hf : bX0_seekLengths_3 x1 x2 x3 g_fromBase g_span g_widest g_firstStep g_secondStep g_firstLength g_secondLength g_factors x4 = some t := hf
      unfold bX0_seekLengths_3 at hf
      refine lv_iload hx hb dX0_seekLengths_3 (lv_at hl 4 rfl) ?_
      refine lv_iload_n hx hb dX0_seekLengths_5 rfl (lv_at hl 3 rfl) ?_
      refine lv_icmp_ge (tgt := 99) hx hb dX0_seekLengths_6 (by decide) (fun c2 => ?_) (fun c2 => ?_)
      · have hf := br_pos c2 hf
        refine lv_iconst (v := 0) hx hb dX0_seekLengths_99 (by decide) ?_
        obtain ⟨c3, hf⟩ := gd_some hf
        cases hf
        have hE : ((0 : Int32), g_firstStep, g_secondStep, g_firstLength, g_secondLength) = (r0, v_firstStep, v_secondStep, v_firstLength, v_secondLength) := hF
        simp only [Prod.mk.injEq] at hE
        obtain ⟨rfl, rfl, rfl, rfl, rfl⟩ := hE
        exact rtZ hx hb hr hlk c3 hP hD hS dX0_seekLengths_100
      · have hf := br_neg c2 hf
        refine lv_aload_n hx hb dX0_seekLengths_9 rfl (lv_at hl 0 rfl) ?_
        refine va_get (D := D) (ci := 0) (v := .ref a_factors) (C := RX0) (T := TX0) (N := 11) hx hb hts z1 hown hN.1 hP 0 rfl rfl 0 (by decide) z2 (fun _ h9 => h9) rfl dX0_seekLengths_10 ?_
        refine lv_iload hx hb dX0_seekLengths_13 (lv_at hl 4 rfl) ?_
        obtain ⟨c4, hf⟩ := gd_some hf
        refine va_iald hx hb hN.1 hP 1 0 rfl rfl (ix_in c4) dX0_seekLengths_15 ?_
        refine lv_topi (fun y5 ey5 => ?_)
        have hf := lt_some hf y5 ey5
        refine lv_istore (lv' := [(5, .int y5), (0, .ref a_this), (1, .int x1), (2, .int x2), (3, .int x3), (4, .int x4)]) hx hb dX0_seekLengths_16 hl (by decide) rfl (fun ls hl => ?_)
        refine lv_aload_n hx hb dX0_seekLengths_18 rfl (lv_at hl 1 rfl) ?_
        refine va_get (D := D) (ci := 0) (v := .ref a_factors) (C := RX0) (T := TX0) (N := 11) hx hb hts z1 hown hN.1 hP 0 rfl rfl 0 (by decide) z2 (fun _ h9 => h9) rfl dX0_seekLengths_19 ?_
        refine lv_iload_n hx hb dX0_seekLengths_22 rfl (lv_at hl 4 rfl) ?_
        refine lv_iconst (v := 1) hx hb dX0_seekLengths_23 (by decide) ?_
        refine lv_isub hx hb dX0_seekLengths_24 ?_
        refine lv_iload hx hb dX0_seekLengths_25 (lv_at hl 5 rfl) ?_
        refine lv_isub hx hb dX0_seekLengths_27 ?_
        obtain ⟨c6, hf⟩ := gd_some hf
        refine va_iald hx hb hN.1 hP 1 0 rfl rfl (ix_in c6) dX0_seekLengths_28 ?_
        refine lv_topi (fun y7 ey7 => ?_)
        have hf := lt_some hf y7 ey7
        refine lv_istore (lv' := [(6, .int y7), (5, .int y5), (0, .ref a_this), (1, .int x1), (2, .int x2), (3, .int x3), (4, .int x4)]) hx hb dX0_seekLengths_29 hl (by decide) rfl (fun ls hl => ?_)
        refine lv_aload_n hx hb dX0_seekLengths_31 rfl (lv_at hl 2 rfl) ?_
        refine lv_iload_n hx hb dX0_seekLengths_32 rfl (lv_at hl 3 rfl) ?_
        refine lv_iload_n hx hb dX0_seekLengths_33 rfl (lv_at hl 4 rfl) ?_
        refine lv_iload hx hb dX0_seekLengths_34 (lv_at hl 1 rfl) ?_
        refine lv_iload hx hb dX0_seekLengths_36 (lv_at hl 0 rfl) ?_
        obtain ⟨u8, hu8, hf⟩ := bd_some hf
        refine caVI (rest := []) (As := [.int x1, .int x2, .int y5, .int y7]) (wr := [(a_factors, .inl (cI, 10, .inl g_factors))]) (wo := [(a_this, .inr (0, [.ref a_factors, .long g_sought, .int g_found, .long g_fromBase, .int g_base, .int g_span, .int g_widest, .int g_firstStep, .int g_secondStep, .int g_firstLength, .int g_secondLength])), (a_factors, .inl (cI, 10, .inl g_factors))]) ⟨hx, hb, hml, hown, hts⟩ hN hP hD hS hA (cX0_reaches_ct l D cI cL cC cZ a_this a_factors g_sought g_found g_fromBase g_base g_span g_widest g_firstStep g_secondStep g_firstLength g_secondLength x1 x2 y5 y7 u8 hu8) z3 0 0 rfl rfl [0] [1] [1, 0] rfl (by decide) rfl (by decide) (by decide) rfl (by decide) rfl hl.1 rfl (Nat.le_of_ble_eq_true rfl) dX0_seekLengths_38 ⟨Nat.zero_le _, Nat.zero_le _⟩ (fun H locs hP hD hS => ?_)
        refine lv_if_eq (tgt := 93) hx hb dX0_seekLengths_41 (by decide) (fun c9 => ?_) (fun c9 => ?_)
        · have hf := br_pos c9 hf
          exact w93 x4 _ H locs ls hf hF hP hD hS (lv_sub hl [2, 3, 4, 5, 6] rfl)
        · have hf := br_neg c9 hf
          refine lv_aload_n hx hb dX0_seekLengths_44 rfl (lv_at hl 2 rfl) ?_
          refine lv_iload_n hx hb dX0_seekLengths_45 rfl (lv_at hl 3 rfl) ?_
          refine lv_iload_n hx hb dX0_seekLengths_46 rfl (lv_at hl 4 rfl) ?_
          refine lv_iload hx hb dX0_seekLengths_47 (lv_at hl 1 rfl) ?_
          refine lv_iload hx hb dX0_seekLengths_49 (lv_at hl 0 rfl) ?_
          obtain ⟨u10, hu10, hf⟩ := bd_some hf
          refine caVI (rest := []) (As := [.int x1, .int x2, .int y5, .int y7]) (wr := [(a_factors, .inl (cI, 10, .inl g_factors))]) (wo := [(a_this, .inr (0, [.ref a_factors, .long g_sought, .int g_found, .long g_fromBase, .int g_base, .int g_span, .int g_widest, .int g_firstStep, .int g_secondStep, .int g_firstLength, .int g_secondLength])), (a_factors, .inl (cI, 10, .inl g_factors))]) ⟨hx, hb, hml, hown, hts⟩ hN hP hD hS hA (cX0_hasAll_ct l D cI cL cC cZ a_this a_factors g_sought g_found g_fromBase g_base g_span g_widest g_firstStep g_secondStep g_firstLength g_secondLength x1 x2 y5 y7 u10 hu10) z4 0 0 rfl rfl [0] [1] [1, 0] rfl (by decide) rfl (by decide) (by decide) rfl (by decide) rfl hl.1 rfl (Nat.le_of_ble_eq_true rfl) dX0_seekLengths_51 ⟨Nat.zero_le _, Nat.zero_le _⟩ (fun H locs hP hD hS => ?_)
          refine lv_if_eq (tgt := 93) hx hb dX0_seekLengths_54 (by decide) (fun c11 => ?_) (fun c11 => ?_)
          · have hf := br_pos c11 hf
            exact w93 x4 _ H locs ls hf hF hP hD hS (lv_sub hl [2, 3, 4, 5, 6] rfl)
          · have hf := br_neg c11 hf
            refine lv_iload_n hx hb dX0_seekLengths_57 rfl (lv_at hl 3 rfl) ?_
            refine lv_iload_n hx hb dX0_seekLengths_58 rfl (lv_at hl 4 rfl) ?_
            refine lv_iload hx hb dX0_seekLengths_59 (lv_at hl 1 rfl) ?_
            refine lv_iload hx hb dX0_seekLengths_61 (lv_at hl 0 rfl) ?_
            obtain ⟨u12, hu12, hf⟩ := bd_some hf
            refine caSI (rest := []) (As := [.int x1, .int x2, .int y5, .int y7]) (wr := [(a_this, .inr (0, [.ref a_factors, .long g_sought, .int g_found, .long g_fromBase, .int g_base, .int g_span, .int g_widest, .int g_firstStep, .int g_secondStep, .int g_firstLength, .int g_secondLength])), (a_factors, .inl (cI, 10, .inl g_factors))]) (wo := [(a_this, .inr (0, [.ref a_factors, .long g_sought, .int g_found, .long g_fromBase, .int g_base, .int g_span, .int g_widest, .int g_firstStep, .int g_secondStep, .int g_firstLength, .int g_secondLength])), (a_factors, .inl (cI, 10, .inl g_factors))]) ⟨hx, hb, hml, hown, hts⟩ hN hP hD hS hA (cX0_tellsEachOnce_ct l D cI cL cC cZ x1 x2 y5 y7 u12 hu12) z5 [] [0, 1] [0, 1] rfl (by decide) rfl (by decide) (by decide) rfl (by decide) rfl hl.1 rfl (Nat.le_of_ble_eq_true rfl) dX0_seekLengths_63 ⟨Nat.zero_le _, Nat.zero_le _⟩ (fun H locs hP hD hS => ?_)
            refine lv_if_eq (tgt := 93) hx hb dX0_seekLengths_66 (by decide) (fun c13 => ?_) (fun c13 => ?_)
            · have hf := br_pos c13 hf
              exact w93 x4 _ H locs ls hf hF hP hD hS (lv_sub hl [2, 3, 4, 5, 6] rfl)
            · have hf := br_neg c13 hf
              refine lv_aload_n hx hb dX0_seekLengths_69 rfl (lv_at hl 2 rfl) ?_
              refine lv_iload_n hx hb dX0_seekLengths_70 rfl (lv_at hl 3 rfl) ?_
              refine va_put (D := D) (ci := 0) (v := .int x1) (ty := .int) (C := RX0) (T := TX0) (N := 11) hx hb hts z1 tyX0 tyX0_ok nmX0 hown hN.1 hP hD hS 0 rfl rfl 7 (by decide) z6 (fun _ h9 => h9) rfl (by decide +kernel) rfl rfl (Nat.le_of_ble_eq_true rfl) dX0_seekLengths_71 (fun H locs hP hD hS => ?_)
              have hP : va_P D vwCl [(a_this, .inr (0, [.ref a_factors, .long g_sought, .int g_found, .long g_fromBase, .int g_base, .int g_span, .int g_widest, .int x1, .int g_secondStep, .int g_firstLength, .int g_secondLength])), (a_factors, .inl (cI, 10, .inl g_factors))] H := hP
              have hD : va_D A [(a_this, .inr (0, [.ref a_factors, .long g_sought, .int g_found, .long g_fromBase, .int g_base, .int g_span, .int g_widest, .int x1, .int g_secondStep, .int g_firstLength, .int g_secondLength])), (a_factors, .inl (cI, 10, .inl g_factors))] := hD
              refine lv_aload_n hx hb dX0_seekLengths_74 rfl (lv_at hl 2 rfl) ?_
              refine lv_iload_n hx hb dX0_seekLengths_75 rfl (lv_at hl 4 rfl) ?_
              refine va_put (D := D) (ci := 0) (v := .int x2) (ty := .int) (C := RX0) (T := TX0) (N := 11) hx hb hts z1 tyX0 tyX0_ok nmX0 hown hN.1 hP hD hS 0 rfl rfl 8 (by decide) z7 (fun _ h9 => h9) rfl (by decide +kernel) rfl rfl (Nat.le_of_ble_eq_true rfl) dX0_seekLengths_76 (fun H locs hP hD hS => ?_)
              have hP : va_P D vwCl [(a_this, .inr (0, [.ref a_factors, .long g_sought, .int g_found, .long g_fromBase, .int g_base, .int g_span, .int g_widest, .int x1, .int x2, .int g_firstLength, .int g_secondLength])), (a_factors, .inl (cI, 10, .inl g_factors))] H := hP
              have hD : va_D A [(a_this, .inr (0, [.ref a_factors, .long g_sought, .int g_found, .long g_fromBase, .int g_base, .int g_span, .int g_widest, .int x1, .int x2, .int g_firstLength, .int g_secondLength])), (a_factors, .inl (cI, 10, .inl g_factors))] := hD
              refine lv_aload_n hx hb dX0_seekLengths_79 rfl (lv_at hl 2 rfl) ?_
              refine lv_iload hx hb dX0_seekLengths_80 (lv_at hl 1 rfl) ?_
              refine va_put (D := D) (ci := 0) (v := .int y5) (ty := .int) (C := RX0) (T := TX0) (N := 11) hx hb hts z1 tyX0 tyX0_ok nmX0 hown hN.1 hP hD hS 0 rfl rfl 9 (by decide) z8 (fun _ h9 => h9) rfl (by decide +kernel) rfl rfl (Nat.le_of_ble_eq_true rfl) dX0_seekLengths_82 (fun H locs hP hD hS => ?_)
              have hP : va_P D vwCl [(a_this, .inr (0, [.ref a_factors, .long g_sought, .int g_found, .long g_fromBase, .int g_base, .int g_span, .int g_widest, .int x1, .int x2, .int y5, .int g_secondLength])), (a_factors, .inl (cI, 10, .inl g_factors))] H := hP
              have hD : va_D A [(a_this, .inr (0, [.ref a_factors, .long g_sought, .int g_found, .long g_fromBase, .int g_base, .int g_span, .int g_widest, .int x1, .int x2, .int y5, .int g_secondLength])), (a_factors, .inl (cI, 10, .inl g_factors))] := hD
              refine lv_aload_n hx hb dX0_seekLengths_85 rfl (lv_at hl 2 rfl) ?_
              refine lv_iload hx hb dX0_seekLengths_86 (lv_at hl 0 rfl) ?_
              refine va_put (D := D) (ci := 0) (v := .int y7) (ty := .int) (C := RX0) (T := TX0) (N := 11) hx hb hts z1 tyX0 tyX0_ok nmX0 hown hN.1 hP hD hS 0 rfl rfl 10 (by decide) z9 (fun _ h9 => h9) rfl (by decide +kernel) rfl rfl (Nat.le_of_ble_eq_true rfl) dX0_seekLengths_88 (fun H locs hP hD hS => ?_)
              have hP : va_P D vwCl [(a_this, .inr (0, [.ref a_factors, .long g_sought, .int g_found, .long g_fromBase, .int g_base, .int g_span, .int g_widest, .int x1, .int x2, .int y5, .int y7])), (a_factors, .inl (cI, 10, .inl g_factors))] H := hP
              have hD : va_D A [(a_this, .inr (0, [.ref a_factors, .long g_sought, .int g_found, .long g_fromBase, .int g_base, .int g_span, .int g_widest, .int x1, .int x2, .int y5, .int y7])), (a_factors, .inl (cI, 10, .inl g_factors))] := hD
              refine lv_iconst (v := 1) hx hb dX0_seekLengths_91 (by decide) ?_
              obtain ⟨c14, hf⟩ := gd_some hf
              cases hf
              have hE : ((1 : Int32), x1, x2, y5, y7) = (r0, v_firstStep, v_secondStep, v_firstLength, v_secondLength) := hF
              simp only [Prod.mk.injEq] at hE
              obtain ⟨rfl, rfl, rfl, rfl, rfl⟩ := hE
              exact rtZ hx hb hr hlk c14 hP hD hS dX0_seekLengths_92
    intro x4 t H locs ls hf hF hP hD hS hl
    exact ((congrFun eF3 _).mp (key x4 t hf hF)) H locs ls hP hD hS hl
  unfold fX0_seekLengths at hf
  obtain ⟨H, eH⟩ : ∃ z, z = s.heap := ⟨_, rfl⟩
  obtain ⟨locs, eL⟩ : ∃ z : List Loc, z = [] := ⟨_, rfl⟩
  have hP : va_P D vwCl [(a_this, .inr (0, [.ref a_factors, .long g_sought, .int g_found, .long g_fromBase, .int g_base, .int g_span, .int g_widest, .int g_firstStep, .int g_secondStep, .int g_firstLength, .int g_secondLength])), (a_factors, .inl (cI, 10, .inl g_factors))] H := by rw [eH]; exact hP
  have hS : va_S A s.heap H locs := by rw [eH, eL]; exact hS
  suffices hG : W p l e rmX0_seekLengths s m ([.ref a_this, .int q1, .int q2, .int q3] : List Value).toArray below meth c H locs 0 0 (MQ below (cQi D r0 A [(a_this, .inr (0, [.ref a_factors, .long g_sought, .int g_found, .long g_fromBase, .int g_base, .int g_span, .int g_widest, .int v_firstStep, .int v_secondStep, .int v_firstLength, .int v_secondLength])), (a_factors, .inl (cI, 10, .inl g_factors))]) ([.ref a_this, .int q1, .int q2, .int q3] : List Value).toArray s 0 0 A) (F0 m 0 ls []) by rw [eH, eL] at hG; exact hG
  refine lv_iconst (v := 0) hx hb dX0_seekLengths_0 (by decide) ?_
  refine lv_istore (lv' := [(4, .int (0 : Int32)), (0, .ref a_this), (1, .int q1), (2, .int q2), (3, .int q3)]) hx hb dX0_seekLengths_1 hl (by decide) rfl (fun ls hl => ?_)
  exact w3 q1 q2 q3 g_fromBase g_span g_widest g_firstStep g_secondStep g_firstLength g_secondLength g_factors (0 : Int32) (r0, v_firstStep, v_secondStep, v_firstLength, v_secondLength) H locs ls hf rfl hP hD hS (lv_sub hl [1, 2, 3, 4, 0] rfl)
abbrev rmX0_seekArea : Room := { frames := 3, cells := 0, slots := 0, locals := 75 }
noncomputable def bX0_seekArea_27 (x2 : Int32) (x3 : Int32) (g_fromBase : Int64) (g_span : Int32) (g_widest : Int32) (g_factors : Nat → Int32) (x4 : Int32) (g_firstStep : Int32) (g_secondStep : Int32) (g_firstLength : Int32) (g_secondLength : Int32) : Option ((Int32 × Int32 × Int32 × Int32 × Int32) ⊕ ((Int32 × Int32 × Int32 × Int32 × Int32) ⊕ (Int32 × Int32 × Int32 × Int32 × Int32 × (Nat → Int32)))) := br (g_widest < (x3 + x4)) (lt_ (x3 + (1 : Int32)) (fun y2 => some (Sum.inr (Sum.inl ((y2, g_firstStep, g_secondStep, g_firstLength, g_secondLength)))))) (bd (fX0_seekLengths x3 x4 x2 g_fromBase g_span g_widest g_firstStep g_secondStep g_firstLength g_secondLength g_factors) (fun u3 => br (u3.1 = 0) (lt_ (x4 + (1 : Int32)) (fun y5 => some (Sum.inl ((y5, u3.2.1, u3.2.2.1, u3.2.2.2.1, u3.2.2.2.2))))) (gd ((1 : Int32) = 0 ∨ (1 : Int32) = 1) (some (Sum.inr (Sum.inr (((1 : Int32), u3.2.1, u3.2.2.1, u3.2.2.2.1, u3.2.2.2.2, g_factors))))))))
noncomputable def sX0_seekArea_27 (x2 : Int32) (x3 : Int32) (g_fromBase : Int64) (g_span : Int32) (g_widest : Int32) (g_factors : Nat → Int32) : (Int32 × Int32 × Int32 × Int32 × Int32) → Option ((Int32 × Int32 × Int32 × Int32 × Int32) ⊕ ((Int32 × Int32 × Int32 × Int32 × Int32) ⊕ (Int32 × Int32 × Int32 × Int32 × Int32 × (Nat → Int32)))) := fun q => bX0_seekArea_27 x2 x3 g_fromBase g_span g_widest g_factors q.1 q.2.1 q.2.2.1 q.2.2.2.1 q.2.2.2.2
noncomputable def bX0_seekArea_14 (x2 : Int32) (g_fromBase : Int64) (g_span : Int32) (g_widest : Int32) (g_factors : Nat → Int32) (x3 : Int32) (g_firstStep : Int32) (g_secondStep : Int32) (g_firstLength : Int32) (g_secondLength : Int32) : Option ((Int32 × Int32 × Int32 × Int32 × Int32) ⊕ (Int32 × Int32 × Int32 × Int32 × Int32 × (Nat → Int32))) := br (g_widest ≤ x3) (gd ((0 : Int32) = 0 ∨ (0 : Int32) = 1) (some (Sum.inr (((0 : Int32), g_firstStep, g_secondStep, g_firstLength, g_secondLength, g_factors))))) (lt_ (x3 + (1 : Int32)) (fun y9 => run (sX0_seekArea_27 x2 x3 g_fromBase g_span g_widest g_factors) ((y9, g_firstStep, g_secondStep, g_firstLength, g_secondLength))))
noncomputable def sX0_seekArea_14 (x2 : Int32) (g_fromBase : Int64) (g_span : Int32) (g_widest : Int32) (g_factors : Nat → Int32) : (Int32 × Int32 × Int32 × Int32 × Int32) → Option ((Int32 × Int32 × Int32 × Int32 × Int32) ⊕ (Int32 × Int32 × Int32 × Int32 × Int32 × (Nat → Int32))) := fun q => bX0_seekArea_14 x2 g_fromBase g_span g_widest g_factors q.1 q.2.1 q.2.2.1 q.2.2.2.1 q.2.2.2.2
noncomputable def fX0_seekArea (q1 : Int32) (g_fromBase : Int64) (g_span : Int32) (g_widest : Int32) (g_firstStep : Int32) (g_secondStep : Int32) (g_firstLength : Int32) (g_secondLength : Int32) (g_factors : Nat → Int32) : Option (Int32 × Int32 × Int32 × Int32 × Int32 × (Nat → Int32)) := bd (fX0_listFactors q1 g_factors) (fun u10 => br (u10.1 = 0) (gd ((0 : Int32) = 0 ∨ (0 : Int32) = 1) (some (((0 : Int32), g_firstStep, g_secondStep, g_firstLength, g_secondLength, u10.2)))) (run (sX0_seekArea_14 u10.1 g_fromBase g_span g_widest u10.2) (((1 : Int32), g_firstStep, g_secondStep, g_firstLength, g_secondLength))))
set_option maxHeartbeats 4000000 in
set_option maxRecDepth 100000 in
theorem cX0_seekArea_ct (l : Launch) (D : va_G) (cI cL cC cZ : ClassId) (a_this a_factors : Nat) (g_sought : Int64) (g_found : Int32) (g_fromBase : Int64) (g_base : Int32) (g_span : Int32) (g_widest : Int32) (g_firstStep : Int32) (g_secondStep : Int32) (g_firstLength : Int32) (g_secondLength : Int32) (g_factors : Nat → Int32) (q1 : Int32) (r0 : Int32) (v_firstStep : Int32) (v_secondStep : Int32) (v_firstLength : Int32) (v_secondLength : Int32) (v_factors : Nat → Int32) (hf : fX0_seekArea q1 g_fromBase g_span g_widest g_firstStep g_secondStep g_firstLength g_secondLength g_factors = some ((r0, v_firstStep, v_secondStep, v_firstLength, v_secondLength, v_factors))) : CtI l yX0_seekArea wsX0_seekArea rmX0_seekArea D (tyz cI cL cC cZ) [.ref a_this, .int q1] [(a_this, .inr (0, [.ref a_factors, .long g_sought, .int g_found, .long g_fromBase, .int g_base, .int g_span, .int g_widest, .int g_firstStep, .int g_secondStep, .int g_firstLength, .int g_secondLength])), (a_factors, .inl (cI, 10, .inl g_factors))] [(a_this, .inr (0, [.ref a_factors, .long g_sought, .int g_found, .long g_fromBase, .int g_base, .int g_span, .int g_widest, .int v_firstStep, .int v_secondStep, .int v_firstLength, .int v_secondLength])), (a_factors, .inl (cI, 10, .inl v_factors))] r0 := by
  refine CtI.make (cc := cX0_seekArea) (maxL := 5) (ty := .boolean) (by decide) rfl (Nat.le_of_ble_eq_true rfl) ?_
  intro p e s m below meth c A ls C0 hN hA hP hD hl
  obtain ⟨hx, hb, hr, hml, hown, hts, hlk⟩ := id C0
  have hown : s.vm.findClass RX0 = some m.cls := hown
  have hS : va_S A s.heap s.heap [] := va_S.rf
  have hP : va_P D vwCl [(a_this, .inr (0, [.ref a_factors, .long g_sought, .int g_found, .long g_fromBase, .int g_base, .int g_span, .int g_widest, .int g_firstStep, .int g_secondStep, .int g_firstLength, .int g_secondLength])), (a_factors, .inl (cI, 10, .inl g_factors))] s.heap := hP
  have hD : va_D A [(a_this, .inr (0, [.ref a_factors, .long g_sought, .int g_found, .long g_fromBase, .int g_base, .int g_span, .int g_widest, .int g_firstStep, .int g_secondStep, .int g_firstLength, .int g_secondLength])), (a_factors, .inl (cI, 10, .inl g_factors))] := hD
  have hl : lv_has ls 5 [(0, .ref a_this), (1, .int q1)] := hl
  have z1 : ∀ w ∈ u_ws RX0 TX0 11, w ∈ wsX0_seekArea := by decide +kernel
  have z2 := hts (.fieldLink RX0 52 "LittleSums$GridSearch" "widest" "I") (by decide +kernel)
  have z3 := cwV (R := rmX0_seekArea) (rm := rmX0_seekLengths) (mc := 0) (ms := 0) 3 hts gX0_seekArea_X0_seekLengths rfl rfl rfl (by decide +kernel) ⟨Nat.le_of_ble_eq_true rfl, Nat.le_of_ble_eq_true rfl⟩
  have z4 := cwV (R := rmX0_seekArea) (rm := rmX0_listFactors) (mc := 0) (ms := 0) 1 hts gX0_seekArea_X0_listFactors rfl rfl rfl (by decide +kernel) ⟨Nat.le_of_ble_eq_true rfl, Nat.le_of_ble_eq_true rfl⟩
  have w14 : ∀ (x2 : Int32) (g_fromBase : Int64) (g_span : Int32) (g_widest : Int32) (g_factors : Nat → Int32) (x3 : Int32) (g_firstStep : Int32) (g_secondStep : Int32) (g_firstLength : Int32) (g_secondLength : Int32) (t : Int32 × Int32 × Int32 × Int32 × Int32 × (Nat → Int32)) (H : Heap) (locs : List Loc) (ls : Array Slot), run (sX0_seekArea_14 x2 g_fromBase g_span g_widest g_factors) ((x3, g_firstStep, g_secondStep, g_firstLength, g_secondLength)) = some t → (fun z => z = (r0, v_firstStep, v_secondStep, v_firstLength, v_secondLength, v_factors)) t → va_P D vwCl [(a_this, .inr (0, [.ref a_factors, .long g_sought, .int g_found, .long g_fromBase, .int g_base, .int g_span, .int g_widest, .int g_firstStep, .int g_secondStep, .int g_firstLength, .int g_secondLength])), (a_factors, .inl (cI, 10, .inl g_factors))] H → va_D A [(a_this, .inr (0, [.ref a_factors, .long g_sought, .int g_found, .long g_fromBase, .int g_base, .int g_span, .int g_widest, .int g_firstStep, .int g_secondStep, .int g_firstLength, .int g_secondLength])), (a_factors, .inl (cI, 10, .inl g_factors))] → va_S A s.heap H locs → lv_has ls 5 [(0, .ref a_this), (2, .int x2), (3, .int x3)] → W p l e rmX0_seekArea s m ([.ref a_this, .int q1] : List Value).toArray below meth c H locs 0 0 (MQ below (cQi D r0 A [(a_this, .inr (0, [.ref a_factors, .long g_sought, .int g_found, .long g_fromBase, .int g_base, .int g_span, .int g_widest, .int v_firstStep, .int v_secondStep, .int v_firstLength, .int v_secondLength])), (a_factors, .inl (cI, 10, .inl v_factors))]) ([.ref a_this, .int q1] : List Value).toArray s 0 0 A) (F0 m 14 ls []) := by
    intro x2 g_fromBase g_span g_widest g_factors
    obtain ⟨F14, eF14⟩ : ∃ F : (Int32 × Int32 × Int32 × Int32 × Int32) → Prop, F = fun q => ∀ (H : Heap) (locs : List Loc) (ls : Array Slot), va_P D vwCl [(a_this, .inr (0, [.ref a_factors, .long g_sought, .int g_found, .long g_fromBase, .int g_base, .int g_span, .int g_widest, .int q.2.1, .int q.2.2.1, .int q.2.2.2.1, .int q.2.2.2.2])), (a_factors, .inl (cI, 10, .inl g_factors))] H → va_D A [(a_this, .inr (0, [.ref a_factors, .long g_sought, .int g_found, .long g_fromBase, .int g_base, .int g_span, .int g_widest, .int q.2.1, .int q.2.2.1, .int q.2.2.2.1, .int q.2.2.2.2])), (a_factors, .inl (cI, 10, .inl g_factors))] → va_S A s.heap H locs → lv_has ls 5 [(0, .ref a_this), (2, .int x2), (3, .int q.1)] → W p l e rmX0_seekArea s m ([.ref a_this, .int q1] : List Value).toArray below meth c H locs 0 0 (MQ below (cQi D r0 A [(a_this, .inr (0, [.ref a_factors, .long g_sought, .int g_found, .long g_fromBase, .int g_base, .int g_span, .int g_widest, .int v_firstStep, .int v_secondStep, .int v_firstLength, .int v_secondLength])), (a_factors, .inl (cI, 10, .inl v_factors))]) ([.ref a_this, .int q1] : List Value).toArray s 0 0 A) (F0 m 14 ls []) := ⟨_, rfl⟩
    have key : ∀ (q : Int32 × Int32 × Int32 × Int32 × Int32) (t : Int32 × Int32 × Int32 × Int32 × Int32 × (Nat → Int32)), run (sX0_seekArea_14 x2 g_fromBase g_span g_widest g_factors) q = some t → (fun z => z = (r0, v_firstStep, v_secondStep, v_firstLength, v_secondLength, v_factors)) t → F14 q := by
      refine loop_rule (sX0_seekArea_14 x2 g_fromBase g_span g_widest g_factors) F14 (fun z => z = (r0, v_firstStep, v_secondStep, v_firstLength, v_secondLength, v_factors)) ?_
      intro q t hf hF
      have hF : (Sum.elim F14 (fun z => z = (r0, v_firstStep, v_secondStep, v_firstLength, v_secondLength, v_factors))) t := hF
      have w27 : ∀ (x3 : Int32) (x4 : Int32) (g_firstStep : Int32) (g_secondStep : Int32) (g_firstLength : Int32) (g_secondLength : Int32) (t : (Int32 × Int32 × Int32 × Int32 × Int32) ⊕ (Int32 × Int32 × Int32 × Int32 × Int32 × (Nat → Int32))) (H : Heap) (locs : List Loc) (ls : Array Slot), run (sX0_seekArea_27 x2 x3 g_fromBase g_span g_widest g_factors) ((x4, g_firstStep, g_secondStep, g_firstLength, g_secondLength)) = some t → (Sum.elim F14 (fun z => z = (r0, v_firstStep, v_secondStep, v_firstLength, v_secondLength, v_factors))) t → va_P D vwCl [(a_this, .inr (0, [.ref a_factors, .long g_sought, .int g_found, .long g_fromBase, .int g_base, .int g_span, .int g_widest, .int g_firstStep, .int g_secondStep, .int g_firstLength, .int g_secondLength])), (a_factors, .inl (cI, 10, .inl g_factors))] H → va_D A [(a_this, .inr (0, [.ref a_factors, .long g_sought, .int g_found, .long g_fromBase, .int g_base, .int g_span, .int g_widest, .int g_firstStep, .int g_secondStep, .int g_firstLength, .int g_secondLength])), (a_factors, .inl (cI, 10, .inl g_factors))] → va_S A s.heap H locs → lv_has ls 5 [(0, .ref a_this), (2, .int x2), (3, .int x3), (4, .int x4)] → W p l e rmX0_seekArea s m ([.ref a_this, .int q1] : List Value).toArray below meth c H locs 0 0 (MQ below (cQi D r0 A [(a_this, .inr (0, [.ref a_factors, .long g_sought, .int g_found, .long g_fromBase, .int g_base, .int g_span, .int g_widest, .int v_firstStep, .int v_secondStep, .int v_firstLength, .int v_secondLength])), (a_factors, .inl (cI, 10, .inl v_factors))]) ([.ref a_this, .int q1] : List Value).toArray s 0 0 A) (F0 m 27 ls []) := by
        intro x3
        obtain ⟨F27, eF27⟩ : ∃ F : (Int32 × Int32 × Int32 × Int32 × Int32) → Prop, F = fun q => ∀ (H : Heap) (locs : List Loc) (ls : Array Slot), va_P D vwCl [(a_this, .inr (0, [.ref a_factors, .long g_sought, .int g_found, .long g_fromBase, .int g_base, .int g_span, .int g_widest, .int q.2.1, .int q.2.2.1, .int q.2.2.2.1, .int q.2.2.2.2])), (a_factors, .inl (cI, 10, .inl g_factors))] H → va_D A [(a_this, .inr (0, [.ref a_factors, .long g_sought, .int g_found, .long g_fromBase, .int g_base, .int g_span, .int g_widest, .int q.2.1, .int q.2.2.1, .int q.2.2.2.1, .int q.2.2.2.2])), (a_factors, .inl (cI, 10, .inl g_factors))] → va_S A s.heap H locs → lv_has ls 5 [(0, .ref a_this), (2, .int x2), (3, .int x3), (4, .int q.1)] → W p l e rmX0_seekArea s m ([.ref a_this, .int q1] : List Value).toArray below meth c H locs 0 0 (MQ below (cQi D r0 A [(a_this, .inr (0, [.ref a_factors, .long g_sought, .int g_found, .long g_fromBase, .int g_base, .int g_span, .int g_widest, .int v_firstStep, .int v_secondStep, .int v_firstLength, .int v_secondLength])), (a_factors, .inl (cI, 10, .inl v_factors))]) ([.ref a_this, .int q1] : List Value).toArray s 0 0 A) (F0 m 27 ls []) := ⟨_, rfl⟩
        have key : ∀ (q : Int32 × Int32 × Int32 × Int32 × Int32) (t : (Int32 × Int32 × Int32 × Int32 × Int32) ⊕ (Int32 × Int32 × Int32 × Int32 × Int32 × (Nat → Int32))), run (sX0_seekArea_27 x2 x3 g_fromBase g_span g_widest g_factors) q = some t → (Sum.elim F14 (fun z => z = (r0, v_firstStep, v_secondStep, v_firstLength, v_secondLength, v_factors))) t → F27 q := by
          refine loop_rule (sX0_seekArea_27 x2 x3 g_fromBase g_span g_widest g_factors) F27 (Sum.elim F14 (fun z => z = (r0, v_firstStep, v_secondStep, v_firstLength, v_secondLength, v_factors))) ?_
          intro q t hf hF
          have hF : (Sum.elim F27 (Sum.elim F14 (fun z => z = (r0, v_firstStep, v_secondStep, v_firstLength, v_secondLength, v_factors)))) t := hF
          rw [eF27]
          obtain ⟨x4, g_firstStep, g_secondStep, g_firstLength, g_secondLength⟩ := q
          intro H locs ls hP hD hS hl
          have hP : va_P D vwCl [(a_this, .inr (0, [.ref a_factors, .long g_sought, .int g_found, .long g_fromBase, .int g_base, .int g_span, .int g_widest, .int g_firstStep, .int g_secondStep, .int g_firstLength, .int g_secondLength])), (a_factors, .inl (cI, 10, .inl g_factors))] H := hP
          have hD : va_D A [(a_this, .inr (0, [.ref a_factors, .long g_sought, .int g_found, .long g_fromBase, .int g_base, .int g_span, .int g_widest, .int g_firstStep, .int g_secondStep, .int g_firstLength, .int g_secondLength])), (a_factors, .inl (cI, 10, .inl g_factors))] := hD
          have hl : lv_has ls 5 [(0, .ref a_this), (2, .int x2), (3, .int x3), (4, .int x4)] := hl
          have hf : bX0_seekArea_27 x2 x3 g_fromBase g_span g_widest g_factors x4 g_firstStep g_secondStep g_firstLength g_secondLength = some t := hf
          unfold bX0_seekArea_27 at hf
          refine lv_iload_n hx hb dX0_seekArea_27 rfl (lv_at hl 2 rfl) ?_
          refine lv_iload hx hb dX0_seekArea_28 (lv_at hl 3 rfl) ?_
          refine lv_iadd hx hb dX0_seekArea_30 ?_
          refine lv_aload_n hx hb dX0_seekArea_31 rfl (lv_at hl 0 rfl) ?_
          refine va_get (D := D) (ci := 0) (v := .int g_widest) (C := RX0) (T := TX0) (N := 11) hx hb hts z1 hown hN.1 hP 0 rfl rfl 6 (by decide) z2 (fun _ h9 => h9) rfl dX0_seekArea_32 ?_
          refine lv_icmp_gt (tgt := 57) hx hb dX0_seekArea_35 (by decide) (fun c1 => ?_) (fun c1 => ?_)
          · have hf := br_pos c1 hf
            obtain ⟨y2, ey2⟩ : ∃ z : Int32, z = x3 + (1 : Int32) := ⟨_, rfl⟩
            have hf := lt_some hf y2 ey2
            refine lv_iinc (v := y2) (lv' := [(3, .int y2), (0, .ref a_this), (2, .int x2), (4, .int x4)]) hx hb dX0_seekArea_57 hl (k := 2) rfl (by rw [ey2]; rfl) (by decide) rfl (fun ls hl => ?_)
            refine lv_goto (tgt := 14) hx hb dX0_seekArea_60 (by decide) ?_
            cases hf
            exact ((congrFun eF14 _).mp hF) H locs ls hP hD hS (lv_sub hl [1, 2, 0] rfl)
          · have hf := br_neg c1 hf
            refine lv_aload_n hx hb dX0_seekArea_38 rfl (lv_at hl 0 rfl) ?_
            refine lv_iload_n hx hb dX0_seekArea_39 rfl (lv_at hl 2 rfl) ?_
            refine lv_iload hx hb dX0_seekArea_40 (lv_at hl 3 rfl) ?_
            refine lv_iload_n hx hb dX0_seekArea_42 rfl (lv_at hl 1 rfl) ?_
            obtain ⟨u3, hu3, hf⟩ := bd_some hf
            refine caVI (rest := []) (As := [.int x3, .int x4, .int x2]) (wr := []) (wo := [(a_this, .inr (0, [.ref a_factors, .long g_sought, .int g_found, .long g_fromBase, .int g_base, .int g_span, .int g_widest, .int u3.2.1, .int u3.2.2.1, .int u3.2.2.2.1, .int u3.2.2.2.2])), (a_factors, .inl (cI, 10, .inl g_factors))]) ⟨hx, hb, hml, hown, hts⟩ hN hP hD hS hA (cX0_seekLengths_ct l D cI cL cC cZ a_this a_factors g_sought g_found g_fromBase g_base g_span g_widest g_firstStep g_secondStep g_firstLength g_secondLength g_factors x3 x4 x2 u3.1 u3.2.1 u3.2.2.1 u3.2.2.2.1 u3.2.2.2.2 hu3) z3 0 0 rfl rfl [0, 1] [] [0, 1] rfl (by decide) rfl (by decide) (by decide) rfl (by decide) rfl hl.1 rfl (Nat.le_of_ble_eq_true rfl) dX0_seekArea_43 ⟨Nat.zero_le _, Nat.zero_le _⟩ (fun H locs hP hD hS => ?_)
            refine lv_if_eq (tgt := 51) hx hb dX0_seekArea_46 (by decide) (fun c4 => ?_) (fun c4 => ?_)
            · have hf := br_pos c4 hf
              obtain ⟨y5, ey5⟩ : ∃ z : Int32, z = x4 + (1 : Int32) := ⟨_, rfl⟩
              have hf := lt_some hf y5 ey5
              refine lv_iinc (v := y5) (lv' := [(4, .int y5), (0, .ref a_this), (2, .int x2), (3, .int x3)]) hx hb dX0_seekArea_51 hl (k := 3) rfl (by rw [ey5]; rfl) (by decide) rfl (fun ls hl => ?_)
              refine lv_goto (tgt := 27) hx hb dX0_seekArea_54 (by decide) ?_
              cases hf
              exact ((congrFun eF27 _).mp hF) H locs ls hP hD hS (lv_sub hl [1, 2, 3, 0] rfl)
            · have hf := br_neg c4 hf
              refine lv_iconst (v := 1) hx hb dX0_seekArea_49 (by decide) ?_
              obtain ⟨c6, hf⟩ := gd_some hf
              cases hf
              have hE : ((1 : Int32), u3.2.1, u3.2.2.1, u3.2.2.2.1, u3.2.2.2.2, g_factors) = (r0, v_firstStep, v_secondStep, v_firstLength, v_secondLength, v_factors) := hF
              simp only [Prod.mk.injEq] at hE
              obtain ⟨rfl, rfl, rfl, rfl, rfl, rfl⟩ := hE
              exact rtZ hx hb hr hlk c6 hP hD hS dX0_seekArea_50
        intro x4 g_firstStep g_secondStep g_firstLength g_secondLength t H locs ls hf hF hP hD hS hl
        exact ((congrFun eF27 _).mp (key ((x4, g_firstStep, g_secondStep, g_firstLength, g_secondLength)) t hf hF)) H locs ls hP hD hS hl
      rw [eF14]
      obtain ⟨x3, g_firstStep, g_secondStep, g_firstLength, g_secondLength⟩ := q
      intro H locs ls hP hD hS hl
      have hP : va_P D vwCl [(a_this, .inr (0, [.ref a_factors, .long g_sought, .int g_found, .long g_fromBase, .int g_base, .int g_span, .int g_widest, .int g_firstStep, .int g_secondStep, .int g_firstLength, .int g_secondLength])), (a_factors, .inl (cI, 10, .inl g_factors))] H := hP
      have hD : va_D A [(a_this, .inr (0, [.ref a_factors, .long g_sought, .int g_found, .long g_fromBase, .int g_base, .int g_span, .int g_widest, .int g_firstStep, .int g_secondStep, .int g_firstLength, .int g_secondLength])), (a_factors, .inl (cI, 10, .inl g_factors))] := hD
      have hl : lv_has ls 5 [(0, .ref a_this), (2, .int x2), (3, .int x3)] := hl
      have hf : bX0_seekArea_14 x2 g_fromBase g_span g_widest g_factors x3 g_firstStep g_secondStep g_firstLength g_secondLength = some t := hf
      unfold bX0_seekArea_14 at hf
      refine lv_iload_n hx hb dX0_seekArea_14 rfl (lv_at hl 2 rfl) ?_
      refine lv_aload_n hx hb dX0_seekArea_15 rfl (lv_at hl 0 rfl) ?_
      refine va_get (D := D) (ci := 0) (v := .int g_widest) (C := RX0) (T := TX0) (N := 11) hx hb hts z1 hown hN.1 hP 0 rfl rfl 6 (by decide) z2 (fun _ h9 => h9) rfl dX0_seekArea_16 ?_
      refine lv_icmp_ge (tgt := 63) hx hb dX0_seekArea_19 (by decide) (fun c7 => ?_) (fun c7 => ?_)
      · have hf := br_pos c7 hf
        refine lv_iconst (v := 0) hx hb dX0_seekArea_63 (by decide) ?_
        obtain ⟨c8, hf⟩ := gd_some hf
        cases hf
        have hE : ((0 : Int32), g_firstStep, g_secondStep, g_firstLength, g_secondLength, g_factors) = (r0, v_firstStep, v_secondStep, v_firstLength, v_secondLength, v_factors) := hF
        simp only [Prod.mk.injEq] at hE
        obtain ⟨rfl, rfl, rfl, rfl, rfl, rfl⟩ := hE
        exact rtZ hx hb hr hlk c8 hP hD hS dX0_seekArea_64
      · have hf := br_neg c7 hf
        refine lv_iload_n hx hb dX0_seekArea_22 rfl (lv_at hl 2 rfl) ?_
        refine lv_iconst (v := 1) hx hb dX0_seekArea_23 (by decide) ?_
        refine lv_iadd hx hb dX0_seekArea_24 ?_
        refine lv_topi (fun y9 ey9 => ?_)
        have hf := lt_some hf y9 ey9
        refine lv_istore (lv' := [(4, .int y9), (0, .ref a_this), (2, .int x2), (3, .int x3)]) hx hb dX0_seekArea_25 hl (by decide) rfl (fun ls hl => ?_)
        exact w27 x3 y9 g_firstStep g_secondStep g_firstLength g_secondLength _ H locs ls hf hF hP hD hS (lv_sub hl [1, 2, 3, 0] rfl)
    intro x3 g_firstStep g_secondStep g_firstLength g_secondLength t H locs ls hf hF hP hD hS hl
    exact ((congrFun eF14 _).mp (key ((x3, g_firstStep, g_secondStep, g_firstLength, g_secondLength)) t hf hF)) H locs ls hP hD hS hl
  unfold fX0_seekArea at hf
  obtain ⟨H, eH⟩ : ∃ z, z = s.heap := ⟨_, rfl⟩
  obtain ⟨locs, eL⟩ : ∃ z : List Loc, z = [] := ⟨_, rfl⟩
  have hP : va_P D vwCl [(a_this, .inr (0, [.ref a_factors, .long g_sought, .int g_found, .long g_fromBase, .int g_base, .int g_span, .int g_widest, .int g_firstStep, .int g_secondStep, .int g_firstLength, .int g_secondLength])), (a_factors, .inl (cI, 10, .inl g_factors))] H := by rw [eH]; exact hP
  have hS : va_S A s.heap H locs := by rw [eH, eL]; exact hS
  suffices hG : W p l e rmX0_seekArea s m ([.ref a_this, .int q1] : List Value).toArray below meth c H locs 0 0 (MQ below (cQi D r0 A [(a_this, .inr (0, [.ref a_factors, .long g_sought, .int g_found, .long g_fromBase, .int g_base, .int g_span, .int g_widest, .int v_firstStep, .int v_secondStep, .int v_firstLength, .int v_secondLength])), (a_factors, .inl (cI, 10, .inl v_factors))]) ([.ref a_this, .int q1] : List Value).toArray s 0 0 A) (F0 m 0 ls []) by rw [eH, eL] at hG; exact hG
  refine lv_aload_n hx hb dX0_seekArea_0 rfl (lv_at hl 0 rfl) ?_
  refine lv_iload_n hx hb dX0_seekArea_1 rfl (lv_at hl 1 rfl) ?_
  obtain ⟨u10, hu10, hf⟩ := bd_some hf
  refine caVI (rest := []) (As := [.int q1]) (wr := []) (wo := [(a_this, .inr (0, [.ref a_factors, .long g_sought, .int g_found, .long g_fromBase, .int g_base, .int g_span, .int g_widest, .int g_firstStep, .int g_secondStep, .int g_firstLength, .int g_secondLength])), (a_factors, .inl (cI, 10, .inl u10.2))]) ⟨hx, hb, hml, hown, hts⟩ hN hP hD hS hA (cX0_listFactors_ct l D cI cL cC cZ a_this a_factors g_sought g_found g_fromBase g_base g_span g_widest g_firstStep g_secondStep g_firstLength g_secondLength g_factors q1 u10.1 u10.2 hu10) z4 0 0 rfl rfl [0, 1] [] [0, 1] rfl (by decide) rfl (by decide) (by decide) rfl (by decide) rfl hl.1 rfl (Nat.le_of_ble_eq_true rfl) dX0_seekArea_2 ⟨Nat.zero_le _, Nat.zero_le _⟩ (fun H locs hP hD hS => ?_)
  refine lv_istore_n (lv' := [(2, .int u10.1), (0, .ref a_this), (1, .int q1)]) hx hb dX0_seekArea_5 rfl hl (by decide) rfl (fun ls hl => ?_)
  refine lv_iload_n hx hb dX0_seekArea_6 rfl (lv_at hl 0 rfl) ?_
  refine lv_if_ne (tgt := 12) hx hb dX0_seekArea_7 (by decide) (fun c11 => ?_) (fun c11 => ?_)
  · have hf := br_neg c11 hf
    refine lv_iconst (v := 1) hx hb dX0_seekArea_12 (by decide) ?_
    refine lv_istore_n (lv' := [(3, .int (1 : Int32)), (2, .int u10.1), (0, .ref a_this), (1, .int q1)]) hx hb dX0_seekArea_13 rfl hl (by decide) rfl (fun ls hl => ?_)
    exact w14 u10.1 g_fromBase g_span g_widest u10.2 (1 : Int32) g_firstStep g_secondStep g_firstLength g_secondLength (r0, v_firstStep, v_secondStep, v_firstLength, v_secondLength, v_factors) H locs ls hf rfl hP hD hS (lv_sub hl [2, 1, 0] rfl)
  · have hf := br_pos c11 hf
    refine lv_iconst (v := 0) hx hb dX0_seekArea_10 (by decide) ?_
    obtain ⟨c12, hf⟩ := gd_some hf
    have hE : ((0 : Int32), g_firstStep, g_secondStep, g_firstLength, g_secondLength, u10.2) = (r0, v_firstStep, v_secondStep, v_firstLength, v_secondLength, v_factors) := Option.some.inj hf
    simp only [Prod.mk.injEq] at hE
    obtain ⟨rfl, rfl, rfl, rfl, rfl, rfl⟩ := hE
    exact rtZ hx hb hr hlk c12 hP hD hS dX0_seekArea_11
abbrev rmX0_seek : Room := { frames := 4, cells := 0, slots := 0, locals := 99 }
noncomputable def bX0_seek_78 (g_sought : Int64) (g_fromBase : Int64) (g_base : Int32) (g_span : Int32) (g_widest : Int32) (x4 : Int32) (g_found : Int32) (g_firstStep : Int32) (g_secondStep : Int32) (g_firstLength : Int32) (g_secondLength : Int32) (g_factors : Nat → Int32) : Option ((Int32 × Int32 × Int32 × Int32 × Int32 × Int32 × (Nat → Int32)) ⊕ (Int32 × Int64 × Int32 × Int64 × Int32 × Int32 × Int32 × Int32 × Int32 × Int32 × Int32 × (Nat → Int32))) := br ((81 : Int32) < x4) (gd (g_found = 0 ∨ g_found = 1) (some (Sum.inr ((g_found, g_sought, g_found, g_fromBase, g_base, g_span, g_widest, g_firstStep, g_secondStep, g_firstLength, g_secondLength, g_factors))))) (br (g_found = 0) (bd (fX0_seekArea x4 g_fromBase g_span g_widest g_firstStep g_secondStep g_firstLength g_secondLength g_factors) (fun u5 => gd (u5.1 = 0 ∨ u5.1 = 1) (lt_ (x4 + (1 : Int32)) (fun y7 => some (Sum.inl ((y7, u5.1, u5.2.1, u5.2.2.1, u5.2.2.2.1, u5.2.2.2.2.1, u5.2.2.2.2.2))))))) (gd (g_found = 0 ∨ g_found = 1) (some (Sum.inr ((g_found, g_sought, g_found, g_fromBase, g_base, g_span, g_widest, g_firstStep, g_secondStep, g_firstLength, g_secondLength, g_factors))))))
noncomputable def sX0_seek_78 (g_sought : Int64) (g_fromBase : Int64) (g_base : Int32) (g_span : Int32) (g_widest : Int32) : (Int32 × Int32 × Int32 × Int32 × Int32 × Int32 × (Nat → Int32)) → Option ((Int32 × Int32 × Int32 × Int32 × Int32 × Int32 × (Nat → Int32)) ⊕ (Int32 × Int64 × Int32 × Int64 × Int32 × Int32 × Int32 × Int32 × Int32 × Int32 × Int32 × (Nat → Int32))) := fun q => bX0_seek_78 g_sought g_fromBase g_base g_span g_widest q.1 q.2.1 q.2.2.1 q.2.2.2.1 q.2.2.2.2.1 q.2.2.2.2.2.1 q.2.2.2.2.2.2
noncomputable def fX0_seek (q1 : Int64) (g_sought : Int64) (g_found : Int32) (g_fromBase : Int64) (g_base : Int32) (g_span : Int32) (g_widest : Int32) (g_firstStep : Int32) (g_secondStep : Int32) (g_firstLength : Int32) (g_secondLength : Int32) (g_factors : Nat → Int32) : Option (Int32 × Int64 × Int32 × Int64 × Int32 × Int32 × Int32 × Int32 × Int32 × Int32 × Int32 × (Nat → Int32)) := br ((lg_cmp q1 g_sought) = 0) (gd (g_found = 0 ∨ g_found = 1) (some ((g_found, g_sought, g_found, g_fromBase, g_base, g_span, g_widest, g_firstStep, g_secondStep, g_firstLength, g_secondLength, g_factors)))) (bd (fX7_leastOf q1) (fun u9 => lt_ ((q1.toUInt64 >>> (u9.toInt64.toUInt64 &&& Int64.toUInt64 63)).toInt64) (fun y10 => bd (fX7_greatestOf q1) (fun u11 => lt_ (u11 - u9) (fun y12 => lt_ ((80 : Int32) - u9) (fun y13 => gd ((0 : Int32) = 0 ∨ (0 : Int32) = 1) (bd (fJ13_bitCount_95d88 q1) (fun u15 => lt_ (if (4 : Int32) < u15 then u15 else (4 : Int32)) (fun y16 => run (sX0_seek_78 q1 y10 u9 y12 y13) ((y16, (0 : Int32), g_firstStep, g_secondStep, g_firstLength, g_secondLength, g_factors)))))))))))
set_option maxHeartbeats 4000000 in
set_option maxRecDepth 100000 in
theorem cX0_seek_ct (l : Launch) (D : va_G) (cI cL cC cZ : ClassId) (a_this a_factors : Nat) (g_sought : Int64) (g_found : Int32) (g_fromBase : Int64) (g_base : Int32) (g_span : Int32) (g_widest : Int32) (g_firstStep : Int32) (g_secondStep : Int32) (g_firstLength : Int32) (g_secondLength : Int32) (g_factors : Nat → Int32) (q1 : Int64) (r0 : Int32) (v_sought : Int64) (v_found : Int32) (v_fromBase : Int64) (v_base : Int32) (v_span : Int32) (v_widest : Int32) (v_firstStep : Int32) (v_secondStep : Int32) (v_firstLength : Int32) (v_secondLength : Int32) (v_factors : Nat → Int32) (hf : fX0_seek q1 g_sought g_found g_fromBase g_base g_span g_widest g_firstStep g_secondStep g_firstLength g_secondLength g_factors = some ((r0, v_sought, v_found, v_fromBase, v_base, v_span, v_widest, v_firstStep, v_secondStep, v_firstLength, v_secondLength, v_factors))) : CtI l yX0_seek wsX0_seek rmX0_seek D (tyz cI cL cC cZ) [.ref a_this, .long q1] [(a_this, .inr (0, [.ref a_factors, .long g_sought, .int g_found, .long g_fromBase, .int g_base, .int g_span, .int g_widest, .int g_firstStep, .int g_secondStep, .int g_firstLength, .int g_secondLength])), (a_factors, .inl (cI, 10, .inl g_factors))] [(a_this, .inr (0, [.ref a_factors, .long v_sought, .int v_found, .long v_fromBase, .int v_base, .int v_span, .int v_widest, .int v_firstStep, .int v_secondStep, .int v_firstLength, .int v_secondLength])), (a_factors, .inl (cI, 10, .inl v_factors))] r0 := by
  refine CtI.make (cc := cX0_seek) (maxL := 5) (ty := .boolean) (by decide) rfl (Nat.le_of_ble_eq_true rfl) ?_
  intro p e s m below meth c A ls C0 hN hA hP hD hl
  obtain ⟨hx, hb, hr, hml, hown, hts, hlk⟩ := id C0
  have hown : s.vm.findClass RX0 = some m.cls := hown
  have hS : va_S A s.heap s.heap [] := va_S.rf
  have hP : va_P D vwCl [(a_this, .inr (0, [.ref a_factors, .long g_sought, .int g_found, .long g_fromBase, .int g_base, .int g_span, .int g_widest, .int g_firstStep, .int g_secondStep, .int g_firstLength, .int g_secondLength])), (a_factors, .inl (cI, 10, .inl g_factors))] s.heap := hP
  have hD : va_D A [(a_this, .inr (0, [.ref a_factors, .long g_sought, .int g_found, .long g_fromBase, .int g_base, .int g_span, .int g_widest, .int g_firstStep, .int g_secondStep, .int g_firstLength, .int g_secondLength])), (a_factors, .inl (cI, 10, .inl g_factors))] := hD
  have hl : lv_has ls 5 [(0, .ref a_this), (1, .long q1)] := hl
  have z1 : ∀ w ∈ u_ws RX0 TX0 11, w ∈ wsX0_seek := by decide +kernel
  have z2 := hts (.fieldLink RX0 35 "LittleSums$GridSearch" "found" "Z") (by decide +kernel)
  have z3 := cwV (R := rmX0_seek) (rm := rmX0_seekArea) (mc := 0) (ms := 0) 1 hts gX0_seek_X0_seekArea rfl rfl rfl (by decide +kernel) ⟨Nat.le_of_ble_eq_true rfl, Nat.le_of_ble_eq_true rfl⟩
  have z4 := hts (.fieldLink RX0 31 "LittleSums$GridSearch" "sought" "J") (by decide +kernel)
  have z5 := va_cnB (R := rmX0_seek) (rm := rmX7_leastOf) (mc := 0) (ms := 0) 1 hts ggX0_seek_X7_leastOf rfl rfl rfl (hN.2 (RX0, 39, yX7_leastOf, "LittleSums") (by decide +kernel)) (hts (.initialized RX7) (by decide +kernel)) (by decide +kernel) ⟨Nat.le_of_ble_eq_true rfl, Nat.le_of_ble_eq_true rfl⟩
  have z6 := hts (.static yX7_leastOf) (by decide +kernel)
  have z7 := hts (.fieldLink RX0 15 "LittleSums$GridSearch" "base" "I") (by decide +kernel)
  have z8 := hts (.fieldLink RX0 43 "LittleSums$GridSearch" "fromBase" "J") (by decide +kernel)
  have z9 := va_cnB (R := rmX0_seek) (rm := rmX7_greatestOf) (mc := 0) (ms := 0) 1 hts ggX0_seek_X7_greatestOf rfl rfl rfl (hN.2 (RX0, 46, yX7_greatestOf, "LittleSums") (by decide +kernel)) (hts (.initialized RX7) (by decide +kernel)) (by decide +kernel) ⟨Nat.le_of_ble_eq_true rfl, Nat.le_of_ble_eq_true rfl⟩
  have z10 := hts (.static yX7_greatestOf) (by decide +kernel)
  have z11 := hts (.fieldLink RX0 49 "LittleSums$GridSearch" "span" "I") (by decide +kernel)
  have z12 := hts (.fieldLink RX0 52 "LittleSums$GridSearch" "widest" "I") (by decide +kernel)
  have z13 := va_cwS (R := rmX0_seek) (rm := rmJ13_bitCount_95d88) (mc := 0) (ms := 0) 1 hts gX0_seek_J13_bitCount_95d88 rfl rfl rfl (by decide +kernel) ⟨Nat.le_of_ble_eq_true rfl, Nat.le_of_ble_eq_true rfl⟩
  have z14 := hts (.methodLink RX0 60 Lib.Math.max.name) (by decide +kernel)
  have z15 := hts (.static Lib.Math.max.name) (by decide +kernel)
  have z16 := hts (.initialized "java/lang/Math") (by decide +kernel)
  have z17 := hts (.code Lib.Math.max.name Lib.Math.max.code 2 (some .int)) (by decide +kernel)
  have w78 : ∀ (g_sought : Int64) (g_fromBase : Int64) (g_base : Int32) (g_span : Int32) (g_widest : Int32) (x4 : Int32) (g_found : Int32) (g_firstStep : Int32) (g_secondStep : Int32) (g_firstLength : Int32) (g_secondLength : Int32) (g_factors : Nat → Int32) (t : Int32 × Int64 × Int32 × Int64 × Int32 × Int32 × Int32 × Int32 × Int32 × Int32 × Int32 × (Nat → Int32)) (H : Heap) (locs : List Loc) (ls : Array Slot), run (sX0_seek_78 g_sought g_fromBase g_base g_span g_widest) ((x4, g_found, g_firstStep, g_secondStep, g_firstLength, g_secondLength, g_factors)) = some t → (fun z => z = (r0, v_sought, v_found, v_fromBase, v_base, v_span, v_widest, v_firstStep, v_secondStep, v_firstLength, v_secondLength, v_factors)) t → va_P D vwCl [(a_this, .inr (0, [.ref a_factors, .long g_sought, .int g_found, .long g_fromBase, .int g_base, .int g_span, .int g_widest, .int g_firstStep, .int g_secondStep, .int g_firstLength, .int g_secondLength])), (a_factors, .inl (cI, 10, .inl g_factors))] H → va_D A [(a_this, .inr (0, [.ref a_factors, .long g_sought, .int g_found, .long g_fromBase, .int g_base, .int g_span, .int g_widest, .int g_firstStep, .int g_secondStep, .int g_firstLength, .int g_secondLength])), (a_factors, .inl (cI, 10, .inl g_factors))] → va_S A s.heap H locs → lv_has ls 5 [(0, .ref a_this), (4, .int x4)] → W p l e rmX0_seek s m ([.ref a_this, .long q1] : List Value).toArray below meth c H locs 0 0 (MQ below (cQi D r0 A [(a_this, .inr (0, [.ref a_factors, .long v_sought, .int v_found, .long v_fromBase, .int v_base, .int v_span, .int v_widest, .int v_firstStep, .int v_secondStep, .int v_firstLength, .int v_secondLength])), (a_factors, .inl (cI, 10, .inl v_factors))]) ([.ref a_this, .long q1] : List Value).toArray s 0 0 A) (F0 m 78 ls []) := by
    intro g_sought g_fromBase g_base g_span g_widest
    obtain ⟨F78, eF78⟩ : ∃ F : (Int32 × Int32 × Int32 × Int32 × Int32 × Int32 × (Nat → Int32)) → Prop, F = fun q => ∀ (H : Heap) (locs : List Loc) (ls : Array Slot), va_P D vwCl [(a_this, .inr (0, [.ref a_factors, .long g_sought, .int q.2.1, .long g_fromBase, .int g_base, .int g_span, .int g_widest, .int q.2.2.1, .int q.2.2.2.1, .int q.2.2.2.2.1, .int q.2.2.2.2.2.1])), (a_factors, .inl (cI, 10, .inl q.2.2.2.2.2.2))] H → va_D A [(a_this, .inr (0, [.ref a_factors, .long g_sought, .int q.2.1, .long g_fromBase, .int g_base, .int g_span, .int g_widest, .int q.2.2.1, .int q.2.2.2.1, .int q.2.2.2.2.1, .int q.2.2.2.2.2.1])), (a_factors, .inl (cI, 10, .inl q.2.2.2.2.2.2))] → va_S A s.heap H locs → lv_has ls 5 [(0, .ref a_this), (4, .int q.1)] → W p l e rmX0_seek s m ([.ref a_this, .long q1] : List Value).toArray below meth c H locs 0 0 (MQ below (cQi D r0 A [(a_this, .inr (0, [.ref a_factors, .long v_sought, .int v_found, .long v_fromBase, .int v_base, .int v_span, .int v_widest, .int v_firstStep, .int v_secondStep, .int v_firstLength, .int v_secondLength])), (a_factors, .inl (cI, 10, .inl v_factors))]) ([.ref a_this, .long q1] : List Value).toArray s 0 0 A) (F0 m 78 ls []) := ⟨_, rfl⟩
    have key : ∀ (q : Int32 × Int32 × Int32 × Int32 × Int32 × Int32 × (Nat → Int32)) (t : Int32 × Int64 × Int32 × Int64 × Int32 × Int32 × Int32 × Int32 × Int32 × Int32 × Int32 × (Nat → Int32)), run (sX0_seek_78 g_sought g_fromBase g_base g_span g_widest) q = some t → (fun z => z = (r0, v_sought, v_found, v_fromBase, v_base, v_span, v_widest, v_firstStep, v_secondStep, v_firstLength, v_secondLength, v_factors)) t → F78 q := by
      refine loop_rule (sX0_seek_78 g_sought g_fromBase g_base g_span g_widest) F78 (fun z => z = (r0, v_sought, v_found, v_fromBase, v_base, v_span, v_widest, v_firstStep, v_secondStep, v_firstLength, v_secondLength, v_factors)) ?_
      intro q t hf hF
      have hF : (Sum.elim F78 (fun z => z = (r0, v_sought, v_found, v_fromBase, v_base, v_span, v_widest, v_firstStep, v_secondStep, v_firstLength, v_secondLength, v_factors))) t := hF
      rw [eF78]
      obtain ⟨x4, g_found, g_firstStep, g_secondStep, g_firstLength, g_secondLength, g_factors⟩ := q
      intro H locs ls hP hD hS hl
      have hP : va_P D vwCl [(a_this, .inr (0, [.ref a_factors, .long g_sought, .int g_found, .long g_fromBase, .int g_base, .int g_span, .int g_widest, .int g_firstStep, .int g_secondStep, .int g_firstLength, .int g_secondLength])), (a_factors, .inl (cI, 10, .inl g_factors))] H := hP
      have hD : va_D A [(a_this, .inr (0, [.ref a_factors, .long g_sought, .int g_found, .long g_fromBase, .int g_base, .int g_span, .int g_widest, .int g_firstStep, .int g_secondStep, .int g_firstLength, .int g_secondLength])), (a_factors, .inl (cI, 10, .inl g_factors))] := hD
      have hl : lv_has ls 5 [(0, .ref a_this), (4, .int x4)] := hl
      have hf : bX0_seek_78 g_sought g_fromBase g_base g_span g_widest x4 g_found g_firstStep g_secondStep g_firstLength g_secondLength g_factors = some t := hf
      unfold bX0_seek_78 at hf
      refine lv_iload hx hb dX0_seek_78 (lv_at hl 1 rfl) ?_
      refine lv_bipush (v := 81) hx hb dX0_seek_80 (by decide) ?_
      refine lv_icmp_gt (tgt := 108) hx hb dX0_seek_82 (by decide) (fun c1 => ?_) (fun c1 => ?_)
      · have hf := br_pos c1 hf
        refine lv_aload_n hx hb dX0_seek_108 rfl (lv_at hl 0 rfl) ?_
        refine va_get (D := D) (ci := 0) (v := .int g_found) (C := RX0) (T := TX0) (N := 11) hx hb hts z1 hown hN.1 hP 0 rfl rfl 2 (by decide) z2 (fun _ h9 => h9) rfl dX0_seek_109 ?_
        obtain ⟨c2, hf⟩ := gd_some hf
        cases hf
        have hE : (g_found, g_sought, g_found, g_fromBase, g_base, g_span, g_widest, g_firstStep, g_secondStep, g_firstLength, g_secondLength, g_factors) = (r0, v_sought, v_found, v_fromBase, v_base, v_span, v_widest, v_firstStep, v_secondStep, v_firstLength, v_secondLength, v_factors) := hF
        simp only [Prod.mk.injEq] at hE
        obtain ⟨rfl, rfl, rfl, rfl, rfl, rfl, rfl, rfl, rfl, rfl, rfl, rfl⟩ := hE
        exact rtZ hx hb hr hlk c2 hP hD hS dX0_seek_112
      · have hf := br_neg c1 hf
        refine lv_aload_n hx hb dX0_seek_85 rfl (lv_at hl 0 rfl) ?_
        refine va_get (D := D) (ci := 0) (v := .int g_found) (C := RX0) (T := TX0) (N := 11) hx hb hts z1 hown hN.1 hP 0 rfl rfl 2 (by decide) z2 (fun _ h9 => h9) rfl dX0_seek_86 ?_
        refine lv_if_ne (tgt := 108) hx hb dX0_seek_89 (by decide) (fun c3 => ?_) (fun c3 => ?_)
        · have hf := br_neg c3 hf
          refine lv_aload_n hx hb dX0_seek_108 rfl (lv_at hl 0 rfl) ?_
          refine va_get (D := D) (ci := 0) (v := .int g_found) (C := RX0) (T := TX0) (N := 11) hx hb hts z1 hown hN.1 hP 0 rfl rfl 2 (by decide) z2 (fun _ h9 => h9) rfl dX0_seek_109 ?_
          obtain ⟨c4, hf⟩ := gd_some hf
          cases hf
          have hE : (g_found, g_sought, g_found, g_fromBase, g_base, g_span, g_widest, g_firstStep, g_secondStep, g_firstLength, g_secondLength, g_factors) = (r0, v_sought, v_found, v_fromBase, v_base, v_span, v_widest, v_firstStep, v_secondStep, v_firstLength, v_secondLength, v_factors) := hF
          simp only [Prod.mk.injEq] at hE
          obtain ⟨rfl, rfl, rfl, rfl, rfl, rfl, rfl, rfl, rfl, rfl, rfl, rfl⟩ := hE
          exact rtZ hx hb hr hlk c4 hP hD hS dX0_seek_112
        · have hf := br_pos c3 hf
          refine lv_aload_n hx hb dX0_seek_92 rfl (lv_at hl 0 rfl) ?_
          refine lv_aload_n hx hb dX0_seek_93 rfl (lv_at hl 0 rfl) ?_
          refine lv_iload hx hb dX0_seek_94 (lv_at hl 1 rfl) ?_
          obtain ⟨u5, hu5, hf⟩ := bd_some hf
          refine caVI (rest := [.ref a_this]) (As := [.int x4]) (wr := []) (wo := [(a_this, .inr (0, [.ref a_factors, .long g_sought, .int g_found, .long g_fromBase, .int g_base, .int g_span, .int g_widest, .int u5.2.1, .int u5.2.2.1, .int u5.2.2.2.1, .int u5.2.2.2.2.1])), (a_factors, .inl (cI, 10, .inl u5.2.2.2.2.2))]) ⟨hx, hb, hml, hown, hts⟩ hN hP hD hS hA (cX0_seekArea_ct l D cI cL cC cZ a_this a_factors g_sought g_found g_fromBase g_base g_span g_widest g_firstStep g_secondStep g_firstLength g_secondLength g_factors x4 u5.1 u5.2.1 u5.2.2.1 u5.2.2.2.1 u5.2.2.2.2.1 u5.2.2.2.2.2 hu5) z3 0 0 rfl rfl [0, 1] [] [0, 1] rfl (by decide) rfl (by decide) (by decide) rfl (by decide) rfl hl.1 rfl (Nat.le_of_ble_eq_true rfl) dX0_seek_96 ⟨Nat.zero_le _, Nat.zero_le _⟩ (fun H locs hP hD hS => ?_)
          obtain ⟨c6, hf⟩ := gd_some hf
          refine va_put (D := D) (ci := 0) (v := .int u5.1) (ty := .boolean) (C := RX0) (T := TX0) (N := 11) hx hb hts z1 tyX0 tyX0_ok nmX0 hown hN.1 hP hD hS 0 rfl rfl 2 (by decide) z2 (fun _ h9 => h9) rfl (by decide +kernel) (isz_nar c6) (isz_fit c6) (Nat.le_of_ble_eq_true rfl) dX0_seek_99 (fun H locs hP hD hS => ?_)
          have hP : va_P D vwCl [(a_this, .inr (0, [.ref a_factors, .long g_sought, .int u5.1, .long g_fromBase, .int g_base, .int g_span, .int g_widest, .int u5.2.1, .int u5.2.2.1, .int u5.2.2.2.1, .int u5.2.2.2.2.1])), (a_factors, .inl (cI, 10, .inl u5.2.2.2.2.2))] H := hP
          have hD : va_D A [(a_this, .inr (0, [.ref a_factors, .long g_sought, .int u5.1, .long g_fromBase, .int g_base, .int g_span, .int g_widest, .int u5.2.1, .int u5.2.2.1, .int u5.2.2.2.1, .int u5.2.2.2.2.1])), (a_factors, .inl (cI, 10, .inl u5.2.2.2.2.2))] := hD
          obtain ⟨y7, ey7⟩ : ∃ z : Int32, z = x4 + (1 : Int32) := ⟨_, rfl⟩
          have hf := lt_some hf y7 ey7
          refine lv_iinc (v := y7) (lv' := [(4, .int y7), (0, .ref a_this)]) hx hb dX0_seek_102 hl (k := 1) rfl (by rw [ey7]; rfl) (by decide) rfl (fun ls hl => ?_)
          refine lv_goto (tgt := 78) hx hb dX0_seek_105 (by decide) ?_
          cases hf
          exact ((congrFun eF78 _).mp hF) H locs ls hP hD hS (lv_sub hl [1, 0] rfl)
    intro x4 g_found g_firstStep g_secondStep g_firstLength g_secondLength g_factors t H locs ls hf hF hP hD hS hl
    exact ((congrFun eF78 _).mp (key ((x4, g_found, g_firstStep, g_secondStep, g_firstLength, g_secondLength, g_factors)) t hf hF)) H locs ls hP hD hS hl
  unfold fX0_seek at hf
  obtain ⟨H, eH⟩ : ∃ z, z = s.heap := ⟨_, rfl⟩
  obtain ⟨locs, eL⟩ : ∃ z : List Loc, z = [] := ⟨_, rfl⟩
  have hP : va_P D vwCl [(a_this, .inr (0, [.ref a_factors, .long g_sought, .int g_found, .long g_fromBase, .int g_base, .int g_span, .int g_widest, .int g_firstStep, .int g_secondStep, .int g_firstLength, .int g_secondLength])), (a_factors, .inl (cI, 10, .inl g_factors))] H := by rw [eH]; exact hP
  have hS : va_S A s.heap H locs := by rw [eH, eL]; exact hS
  suffices hG : W p l e rmX0_seek s m ([.ref a_this, .long q1] : List Value).toArray below meth c H locs 0 0 (MQ below (cQi D r0 A [(a_this, .inr (0, [.ref a_factors, .long v_sought, .int v_found, .long v_fromBase, .int v_base, .int v_span, .int v_widest, .int v_firstStep, .int v_secondStep, .int v_firstLength, .int v_secondLength])), (a_factors, .inl (cI, 10, .inl v_factors))]) ([.ref a_this, .long q1] : List Value).toArray s 0 0 A) (F0 m 0 ls []) by rw [eH, eL] at hG; exact hG
  refine lv_lload_n hx hb dX0_seek_0 rfl (lv_at hl 1 rfl) ?_
  refine lv_aload_n hx hb dX0_seek_1 rfl (lv_at hl 0 rfl) ?_
  refine va_get (D := D) (ci := 0) (v := .long g_sought) (C := RX0) (T := TX0) (N := 11) hx hb hts z1 hown hN.1 hP 0 rfl rfl 1 (by decide) z4 (fun _ h9 => h9) rfl dX0_seek_2 ?_
  refine W.lcmp hx hb dX0_seek_5 ?_
  refine lv_if_ne (tgt := 14) hx hb dX0_seek_6 (by decide) (fun c8 => ?_) (fun c8 => ?_)
  · have hf := br_neg c8 hf
    refine lv_aload_n hx hb dX0_seek_14 rfl (lv_at hl 0 rfl) ?_
    refine lv_lload_n hx hb dX0_seek_15 rfl (lv_at hl 1 rfl) ?_
    refine va_put (D := D) (ci := 0) (v := .long q1) (ty := .long) (C := RX0) (T := TX0) (N := 11) hx hb hts z1 tyX0 tyX0_ok nmX0 hown hN.1 hP hD hS 0 rfl rfl 1 (by decide) z4 (fun _ h9 => h9) rfl (by decide +kernel) rfl rfl (Nat.le_of_ble_eq_true rfl) dX0_seek_16 (fun H locs hP hD hS => ?_)
    have hP : va_P D vwCl [(a_this, .inr (0, [.ref a_factors, .long q1, .int g_found, .long g_fromBase, .int g_base, .int g_span, .int g_widest, .int g_firstStep, .int g_secondStep, .int g_firstLength, .int g_secondLength])), (a_factors, .inl (cI, 10, .inl g_factors))] H := hP
    have hD : va_D A [(a_this, .inr (0, [.ref a_factors, .long q1, .int g_found, .long g_fromBase, .int g_base, .int g_span, .int g_widest, .int g_firstStep, .int g_secondStep, .int g_firstLength, .int g_secondLength])), (a_factors, .inl (cI, 10, .inl g_factors))] := hD
    refine lv_aload_n hx hb dX0_seek_19 rfl (lv_at hl 0 rfl) ?_
    refine lv_lload_n hx hb dX0_seek_20 rfl (lv_at hl 1 rfl) ?_
    obtain ⟨u9, hu9, hf⟩ := bd_some hf
    refine caNI (rest := [.ref a_this]) (As := [.long q1]) (wr := [(a_this, .inr (0, [.ref a_factors, .long q1, .int g_found, .long g_fromBase, .int g_base, .int g_span, .int g_widest, .int g_firstStep, .int g_secondStep, .int g_firstLength, .int g_secondLength])), (a_factors, .inl (cI, 10, .inl g_factors))]) (wo := [(a_this, .inr (0, [.ref a_factors, .long q1, .int g_found, .long g_fromBase, .int g_base, .int g_span, .int g_widest, .int g_firstStep, .int g_secondStep, .int g_firstLength, .int g_secondLength])), (a_factors, .inl (cI, 10, .inl g_factors))]) ⟨hx, hb, hml, hown, hts⟩ hN hP hD hS hA (cX7_leastOf_ct l D cI cL cC cZ q1 u9 hu9) ⟨z5, z6, trivial⟩ [] [0, 1] [0, 1] rfl (by decide) rfl (by decide) (by decide) rfl (by decide) rfl hl.1 rfl (Nat.le_of_ble_eq_true rfl) dX0_seek_21 ⟨Nat.zero_le _, Nat.zero_le _⟩ (fun H locs hP hD hS => ?_)
    refine va_put (D := D) (ci := 0) (v := .int u9) (ty := .int) (C := RX0) (T := TX0) (N := 11) hx hb hts z1 tyX0 tyX0_ok nmX0 hown hN.1 hP hD hS 0 rfl rfl 4 (by decide) z7 (fun _ h9 => h9) rfl (by decide +kernel) rfl rfl (Nat.le_of_ble_eq_true rfl) dX0_seek_24 (fun H locs hP hD hS => ?_)
    have hP : va_P D vwCl [(a_this, .inr (0, [.ref a_factors, .long q1, .int g_found, .long g_fromBase, .int u9, .int g_span, .int g_widest, .int g_firstStep, .int g_secondStep, .int g_firstLength, .int g_secondLength])), (a_factors, .inl (cI, 10, .inl g_factors))] H := hP
    have hD : va_D A [(a_this, .inr (0, [.ref a_factors, .long q1, .int g_found, .long g_fromBase, .int u9, .int g_span, .int g_widest, .int g_firstStep, .int g_secondStep, .int g_firstLength, .int g_secondLength])), (a_factors, .inl (cI, 10, .inl g_factors))] := hD
    refine lv_aload_n hx hb dX0_seek_27 rfl (lv_at hl 0 rfl) ?_
    refine lv_lload_n hx hb dX0_seek_28 rfl (lv_at hl 1 rfl) ?_
    refine lv_aload_n hx hb dX0_seek_29 rfl (lv_at hl 0 rfl) ?_
    refine va_get (D := D) (ci := 0) (v := .int u9) (C := RX0) (T := TX0) (N := 11) hx hb hts z1 hown hN.1 hP 0 rfl rfl 4 (by decide) z7 (fun _ h9 => h9) rfl dX0_seek_30 ?_
    refine lv_lushr hx hb dX0_seek_33 rfl ?_
    refine lv_topl (fun y10 ey10 => ?_)
    have hf := lt_some hf y10 ey10
    refine va_put (D := D) (ci := 0) (v := .long y10) (ty := .long) (C := RX0) (T := TX0) (N := 11) hx hb hts z1 tyX0 tyX0_ok nmX0 hown hN.1 hP hD hS 0 rfl rfl 3 (by decide) z8 (fun _ h9 => h9) rfl (by decide +kernel) rfl rfl (Nat.le_of_ble_eq_true rfl) dX0_seek_34 (fun H locs hP hD hS => ?_)
    have hP : va_P D vwCl [(a_this, .inr (0, [.ref a_factors, .long q1, .int g_found, .long y10, .int u9, .int g_span, .int g_widest, .int g_firstStep, .int g_secondStep, .int g_firstLength, .int g_secondLength])), (a_factors, .inl (cI, 10, .inl g_factors))] H := hP
    have hD : va_D A [(a_this, .inr (0, [.ref a_factors, .long q1, .int g_found, .long y10, .int u9, .int g_span, .int g_widest, .int g_firstStep, .int g_secondStep, .int g_firstLength, .int g_secondLength])), (a_factors, .inl (cI, 10, .inl g_factors))] := hD
    refine lv_aload_n hx hb dX0_seek_37 rfl (lv_at hl 0 rfl) ?_
    refine lv_lload_n hx hb dX0_seek_38 rfl (lv_at hl 1 rfl) ?_
    obtain ⟨u11, hu11, hf⟩ := bd_some hf
    refine caNI (rest := [.ref a_this]) (As := [.long q1]) (wr := [(a_this, .inr (0, [.ref a_factors, .long q1, .int g_found, .long y10, .int u9, .int g_span, .int g_widest, .int g_firstStep, .int g_secondStep, .int g_firstLength, .int g_secondLength])), (a_factors, .inl (cI, 10, .inl g_factors))]) (wo := [(a_this, .inr (0, [.ref a_factors, .long q1, .int g_found, .long y10, .int u9, .int g_span, .int g_widest, .int g_firstStep, .int g_secondStep, .int g_firstLength, .int g_secondLength])), (a_factors, .inl (cI, 10, .inl g_factors))]) ⟨hx, hb, hml, hown, hts⟩ hN hP hD hS hA (cX7_greatestOf_ct l D cI cL cC cZ q1 u11 hu11) ⟨z9, z10, trivial⟩ [] [0, 1] [0, 1] rfl (by decide) rfl (by decide) (by decide) rfl (by decide) rfl hl.1 rfl (Nat.le_of_ble_eq_true rfl) dX0_seek_39 ⟨Nat.zero_le _, Nat.zero_le _⟩ (fun H locs hP hD hS => ?_)
    refine lv_aload_n hx hb dX0_seek_42 rfl (lv_at hl 0 rfl) ?_
    refine va_get (D := D) (ci := 0) (v := .int u9) (C := RX0) (T := TX0) (N := 11) hx hb hts z1 hown hN.1 hP 0 rfl rfl 4 (by decide) z7 (fun _ h9 => h9) rfl dX0_seek_43 ?_
    refine lv_isub hx hb dX0_seek_46 ?_
    refine lv_topi (fun y12 ey12 => ?_)
    have hf := lt_some hf y12 ey12
    refine va_put (D := D) (ci := 0) (v := .int y12) (ty := .int) (C := RX0) (T := TX0) (N := 11) hx hb hts z1 tyX0 tyX0_ok nmX0 hown hN.1 hP hD hS 0 rfl rfl 5 (by decide) z11 (fun _ h9 => h9) rfl (by decide +kernel) rfl rfl (Nat.le_of_ble_eq_true rfl) dX0_seek_47 (fun H locs hP hD hS => ?_)
    have hP : va_P D vwCl [(a_this, .inr (0, [.ref a_factors, .long q1, .int g_found, .long y10, .int u9, .int y12, .int g_widest, .int g_firstStep, .int g_secondStep, .int g_firstLength, .int g_secondLength])), (a_factors, .inl (cI, 10, .inl g_factors))] H := hP
    have hD : va_D A [(a_this, .inr (0, [.ref a_factors, .long q1, .int g_found, .long y10, .int u9, .int y12, .int g_widest, .int g_firstStep, .int g_secondStep, .int g_firstLength, .int g_secondLength])), (a_factors, .inl (cI, 10, .inl g_factors))] := hD
    refine lv_aload_n hx hb dX0_seek_50 rfl (lv_at hl 0 rfl) ?_
    refine lv_bipush (v := 80) hx hb dX0_seek_51 (by decide) ?_
    refine lv_aload_n hx hb dX0_seek_53 rfl (lv_at hl 0 rfl) ?_
    refine va_get (D := D) (ci := 0) (v := .int u9) (C := RX0) (T := TX0) (N := 11) hx hb hts z1 hown hN.1 hP 0 rfl rfl 4 (by decide) z7 (fun _ h9 => h9) rfl dX0_seek_54 ?_
    refine lv_isub hx hb dX0_seek_57 ?_
    refine lv_topi (fun y13 ey13 => ?_)
    have hf := lt_some hf y13 ey13
    refine va_put (D := D) (ci := 0) (v := .int y13) (ty := .int) (C := RX0) (T := TX0) (N := 11) hx hb hts z1 tyX0 tyX0_ok nmX0 hown hN.1 hP hD hS 0 rfl rfl 6 (by decide) z12 (fun _ h9 => h9) rfl (by decide +kernel) rfl rfl (Nat.le_of_ble_eq_true rfl) dX0_seek_58 (fun H locs hP hD hS => ?_)
    have hP : va_P D vwCl [(a_this, .inr (0, [.ref a_factors, .long q1, .int g_found, .long y10, .int u9, .int y12, .int y13, .int g_firstStep, .int g_secondStep, .int g_firstLength, .int g_secondLength])), (a_factors, .inl (cI, 10, .inl g_factors))] H := hP
    have hD : va_D A [(a_this, .inr (0, [.ref a_factors, .long q1, .int g_found, .long y10, .int u9, .int y12, .int y13, .int g_firstStep, .int g_secondStep, .int g_firstLength, .int g_secondLength])), (a_factors, .inl (cI, 10, .inl g_factors))] := hD
    refine lv_aload_n hx hb dX0_seek_61 rfl (lv_at hl 0 rfl) ?_
    refine lv_iconst (v := 0) hx hb dX0_seek_62 (by decide) ?_
    obtain ⟨c14, hf⟩ := gd_some hf
    refine va_put (D := D) (ci := 0) (v := .int (0 : Int32)) (ty := .boolean) (C := RX0) (T := TX0) (N := 11) hx hb hts z1 tyX0 tyX0_ok nmX0 hown hN.1 hP hD hS 0 rfl rfl 2 (by decide) z2 (fun _ h9 => h9) rfl (by decide +kernel) (isz_nar c14) (isz_fit c14) (Nat.le_of_ble_eq_true rfl) dX0_seek_63 (fun H locs hP hD hS => ?_)
    have hP : va_P D vwCl [(a_this, .inr (0, [.ref a_factors, .long q1, .int (0 : Int32), .long y10, .int u9, .int y12, .int y13, .int g_firstStep, .int g_secondStep, .int g_firstLength, .int g_secondLength])), (a_factors, .inl (cI, 10, .inl g_factors))] H := hP
    have hD : va_D A [(a_this, .inr (0, [.ref a_factors, .long q1, .int (0 : Int32), .long y10, .int u9, .int y12, .int y13, .int g_firstStep, .int g_secondStep, .int g_firstLength, .int g_secondLength])), (a_factors, .inl (cI, 10, .inl g_factors))] := hD
    refine lv_lload_n hx hb dX0_seek_66 rfl (lv_at hl 1 rfl) ?_
    obtain ⟨u15, hu15, hf⟩ := bd_some hf
    refine caSI (rest := []) (As := [.long q1]) (wr := [(a_this, .inr (0, [.ref a_factors, .long q1, .int (0 : Int32), .long y10, .int u9, .int y12, .int y13, .int g_firstStep, .int g_secondStep, .int g_firstLength, .int g_secondLength])), (a_factors, .inl (cI, 10, .inl g_factors))]) (wo := [(a_this, .inr (0, [.ref a_factors, .long q1, .int (0 : Int32), .long y10, .int u9, .int y12, .int y13, .int g_firstStep, .int g_secondStep, .int g_firstLength, .int g_secondLength])), (a_factors, .inl (cI, 10, .inl g_factors))]) ⟨hx, hb, hml, hown, hts⟩ hN hP hD hS hA (cJ13_bitCount_95d88_ct l D cI cL cC cZ q1 u15 hu15) z13 [] [0, 1] [0, 1] rfl (by decide) rfl (by decide) (by decide) rfl (by decide) rfl hl.1 rfl (Nat.le_of_ble_eq_true rfl) dX0_seek_67 ⟨Nat.zero_le _, Nat.zero_le _⟩ (fun H locs hP hD hS => ?_)
    refine lv_istore_n (lv' := [(3, .int u15), (0, .ref a_this), (1, .long q1)]) hx hb dX0_seek_70 rfl hl (by decide) rfl (fun ls hl => ?_)
    refine lv_iconst (v := 4) hx hb dX0_seek_71 (by decide) ?_
    refine lv_iload_n hx hb dX0_seek_72 rfl (lv_at hl 0 rfl) ?_
    refine va_mmax hx hb (by rw [hml]; exact hl.1.symm) hown z14 z15 z16 z17 (Nat.le_of_ble_eq_true rfl) (Nat.le_of_ble_eq_true rfl) (Nat.zero_le _) (Nat.zero_le _) dX0_seek_73 ?_
    refine lv_topi (fun y16 ey16 => ?_)
    have hf := lt_some hf y16 ey16
    refine lv_istore (lv' := [(4, .int y16), (3, .int u15), (0, .ref a_this), (1, .long q1)]) hx hb dX0_seek_76 hl (by decide) rfl (fun ls hl => ?_)
    exact w78 q1 y10 u9 y12 y13 y16 (0 : Int32) g_firstStep g_secondStep g_firstLength g_secondLength g_factors (r0, v_sought, v_found, v_fromBase, v_base, v_span, v_widest, v_firstStep, v_secondStep, v_firstLength, v_secondLength, v_factors) H locs ls hf rfl hP hD hS (lv_sub hl [2, 0] rfl)
  · have hf := br_pos c8 hf
    refine lv_aload_n hx hb dX0_seek_9 rfl (lv_at hl 0 rfl) ?_
    refine va_get (D := D) (ci := 0) (v := .int g_found) (C := RX0) (T := TX0) (N := 11) hx hb hts z1 hown hN.1 hP 0 rfl rfl 2 (by decide) z2 (fun _ h9 => h9) rfl dX0_seek_10 ?_
    obtain ⟨c17, hf⟩ := gd_some hf
    have hE : (g_found, g_sought, g_found, g_fromBase, g_base, g_span, g_widest, g_firstStep, g_secondStep, g_firstLength, g_secondLength, g_factors) = (r0, v_sought, v_found, v_fromBase, v_base, v_span, v_widest, v_firstStep, v_secondStep, v_firstLength, v_secondLength, v_factors) := Option.some.inj hf
    simp only [Prod.mk.injEq] at hE
    obtain ⟨rfl, rfl, rfl, rfl, rfl, rfl, rfl, rfl, rfl, rfl, rfl, rfl⟩ := hE
    exact rtZ hx hb hr hlk c17 hP hD hS dX0_seek_13
abbrev rmX1_size : Room := { frames := 0, cells := 0, slots := 0, locals := 0 }
noncomputable def fX1_size (g_size : Int32) : Option (Int32) := some (g_size)
set_option maxHeartbeats 4000000 in
set_option maxRecDepth 100000 in
theorem cX1_size_ct (l : Launch) (D : va_G) (cI cL cC cZ : ClassId) (a_this a_changed a_before : Nat) (g_size : Int32) (r0 : Int32) (hf : fX1_size g_size = some r0) : CtI l yX1_size wsX1_size rmX1_size D (tyz cI cL cC cZ) [.ref a_this] [(a_this, .inr (1, [.ref a_changed, .ref a_before, .int g_size]))] [(a_this, .inr (1, [.ref a_changed, .ref a_before, .int g_size]))] r0 := by
  refine CtI.make (cc := cX1_size) (maxL := 1) (ty := .int) (by decide) rfl (Nat.le_of_ble_eq_true rfl) ?_
  intro p e s m below meth c A ls C0 hN hA hP hD hl
  obtain ⟨hx, hb, hr, hml, hown, hts, hlk⟩ := id C0
  have hown : s.vm.findClass RX1 = some m.cls := hown
  have hS : va_S A s.heap s.heap [] := va_S.rf
  have hP : va_P D vwCl [(a_this, .inr (1, [.ref a_changed, .ref a_before, .int g_size]))] s.heap := hP
  have hD : va_D A [(a_this, .inr (1, [.ref a_changed, .ref a_before, .int g_size]))] := hD
  have hl : lv_has ls 1 [(0, .ref a_this)] := hl
  have z1 : ∀ w ∈ u_ws RX1 TX1 3, w ∈ wsX1_size := by decide +kernel
  have z2 := hts (.fieldLink RX1 19 "LittleSums$History" "size" "I") (by decide +kernel)
  unfold fX1_size at hf
  obtain ⟨H, eH⟩ : ∃ z, z = s.heap := ⟨_, rfl⟩
  obtain ⟨locs, eL⟩ : ∃ z : List Loc, z = [] := ⟨_, rfl⟩
  have hP : va_P D vwCl [(a_this, .inr (1, [.ref a_changed, .ref a_before, .int g_size]))] H := by rw [eH]; exact hP
  have hS : va_S A s.heap H locs := by rw [eH, eL]; exact hS
  suffices hG : W p l e rmX1_size s m ([.ref a_this] : List Value).toArray below meth c H locs 0 0 (MQ below (cQi D r0 A [(a_this, .inr (1, [.ref a_changed, .ref a_before, .int g_size]))]) ([.ref a_this] : List Value).toArray s 0 0 A) (F0 m 0 ls []) by rw [eH, eL] at hG; exact hG
  refine lv_aload_n hx hb dX1_size_0 rfl (lv_at hl 0 rfl) ?_
  refine va_get (D := D) (ci := 1) (v := .int g_size) (C := RX1) (T := TX1) (N := 3) hx hb hts z1 hown hN.1 hP 0 rfl rfl 2 (by decide) z2 (fun _ h9 => h9) rfl dX1_size_1 ?_
  have hE : g_size = r0 := Option.some.inj hf
  subst hE
  exact rtI hx hb hr hlk hP hD hS dX1_size_4
abbrev rmX1_clear : Room := { frames := 0, cells := 0, slots := 0, locals := 0 }
noncomputable def fX1_clear (g_size : Int32) : Option (Int32) := some ((0 : Int32))
set_option maxHeartbeats 4000000 in
set_option maxRecDepth 100000 in
theorem cX1_clear_ct (l : Launch) (D : va_G) (cI cL cC cZ : ClassId) (a_this a_changed a_before : Nat) (g_size : Int32) (v_size : Int32) (hf : fX1_clear g_size = some v_size) : CtV l yX1_clear wsX1_clear rmX1_clear D (tyz cI cL cC cZ) [.ref a_this] [(a_this, .inr (1, [.ref a_changed, .ref a_before, .int g_size]))] [(a_this, .inr (1, [.ref a_changed, .ref a_before, .int v_size]))] := by
  refine CtV.make (cc := cX1_clear) (maxL := 1) (by decide) rfl (Nat.le_of_ble_eq_true rfl) ?_
  intro p e s m below meth c A ls C0 hN hA hP hD hl
  obtain ⟨hx, hb, hr, hml, hown, hts, hlk⟩ := id C0
  have hown : s.vm.findClass RX1 = some m.cls := hown
  have hS : va_S A s.heap s.heap [] := va_S.rf
  have hP : va_P D vwCl [(a_this, .inr (1, [.ref a_changed, .ref a_before, .int g_size]))] s.heap := hP
  have hD : va_D A [(a_this, .inr (1, [.ref a_changed, .ref a_before, .int g_size]))] := hD
  have hl : lv_has ls 1 [(0, .ref a_this)] := hl
  have z1 : ∀ w ∈ u_ws RX1 TX1 3, w ∈ wsX1_clear := by decide +kernel
  have z2 := hts (.fieldLink RX1 19 "LittleSums$History" "size" "I") (by decide +kernel)
  unfold fX1_clear at hf
  obtain ⟨H, eH⟩ : ∃ z, z = s.heap := ⟨_, rfl⟩
  obtain ⟨locs, eL⟩ : ∃ z : List Loc, z = [] := ⟨_, rfl⟩
  have hP : va_P D vwCl [(a_this, .inr (1, [.ref a_changed, .ref a_before, .int g_size]))] H := by rw [eH]; exact hP
  have hS : va_S A s.heap H locs := by rw [eH, eL]; exact hS
  suffices hG : W p l e rmX1_clear s m ([.ref a_this] : List Value).toArray below meth c H locs 0 0 (MQ below (cQv D A [(a_this, .inr (1, [.ref a_changed, .ref a_before, .int v_size]))]) ([.ref a_this] : List Value).toArray s 0 0 A) (F0 m 0 ls []) by rw [eH, eL] at hG; exact hG
  refine lv_aload_n hx hb dX1_clear_0 rfl (lv_at hl 0 rfl) ?_
  refine lv_iconst (v := 0) hx hb dX1_clear_1 (by decide) ?_
  refine va_put (D := D) (ci := 1) (v := .int (0 : Int32)) (ty := .int) (C := RX1) (T := TX1) (N := 3) hx hb hts z1 tyX1 tyX1_ok nmX1 hown hN.1 hP hD hS 0 rfl rfl 2 (by decide) z2 (fun _ h9 => h9) rfl (by decide +kernel) rfl rfl (Nat.le_of_ble_eq_true rfl) dX1_clear_2 (fun H locs hP hD hS => ?_)
  have hP : va_P D vwCl [(a_this, .inr (1, [.ref a_changed, .ref a_before, .int (0 : Int32)]))] H := hP
  have hD : va_D A [(a_this, .inr (1, [.ref a_changed, .ref a_before, .int (0 : Int32)]))] := hD
  have hE : (0 : Int32) = v_size := Option.some.inj hf
  subst hE
  exact rtV hx hb hr hlk hP hD hS dX1_clear_5
abbrev rmX1_keep : Room := { frames := 1, cells := 0, slots := 0, locals := 64 }
noncomputable def bX1_keep_42 (x1 : Int32) (x2 : Int64) (g_size : Int32) (g_changed : Nat → Int32) (g_before : Nat → Int64) : Option (Int32 × (Nat → Int32) × (Nat → Int64)) := gd (¬ g_size < 0 ∧ g_size.toNatClampNeg < 6) (lt_ (upd g_changed g_size.toNatClampNeg x1) (fun y2 => gd (¬ g_size < 0 ∧ g_size.toNatClampNeg < 6) (lt_ (vp_updL g_before g_size.toNatClampNeg x2) (fun y4 => lt_ (g_size + (1 : Int32)) (fun y5 => some ((y5, y2, y4)))))))
noncomputable def fX1_keep (q1 : Int32) (q2 : Int64) (g_size : Int32) (g_changed : Nat → Int32) (g_before : Nat → Int64) : Option (Int32 × (Nat → Int32) × (Nat → Int64)) := br (g_size < (6 : Int32)) (bX1_keep_42 q1 q2 g_size g_changed g_before) (lt_ (va_cpy g_changed g_changed (1 : Int32).toNatClampNeg (0 : Int32).toNatClampNeg (5 : Int32).toNatClampNeg) (fun y7 => lt_ (va_cpy g_before g_before (1 : Int32).toNatClampNeg (0 : Int32).toNatClampNeg (5 : Int32).toNatClampNeg) (fun y8 => bX1_keep_42 q1 q2 (5 : Int32) y7 y8)))
set_option maxHeartbeats 4000000 in
set_option maxRecDepth 100000 in
theorem cX1_keep_ct (l : Launch) (D : va_G) (cI cL cC cZ : ClassId) (a_this a_changed a_before : Nat) (g_size : Int32) (g_changed : Nat → Int32) (g_before : Nat → Int64) (q1 : Int32) (q2 : Int64) (v_size : Int32) (v_changed : Nat → Int32) (v_before : Nat → Int64) (hf : fX1_keep q1 q2 g_size g_changed g_before = some ((v_size, v_changed, v_before))) : CtV l yX1_keep wsX1_keep rmX1_keep D (tyz cI cL cC cZ) [.ref a_this, .int q1, .long q2] [(a_this, .inr (1, [.ref a_changed, .ref a_before, .int g_size])), (a_changed, .inl (cI, 6, .inl g_changed)), (a_before, .inl (cL, 6, .inr (.inl g_before)))] [(a_this, .inr (1, [.ref a_changed, .ref a_before, .int v_size])), (a_changed, .inl (cI, 6, .inl v_changed)), (a_before, .inl (cL, 6, .inr (.inl v_before)))] := by
  refine CtV.make (cc := cX1_keep) (maxL := 4) (by decide) rfl (Nat.le_of_ble_eq_true rfl) ?_
  intro p e s m below meth c A ls C0 hN hA hP hD hl
  obtain ⟨hx, hb, hr, hml, hown, hts, hlk⟩ := id C0
  have hown : s.vm.findClass RX1 = some m.cls := hown
  have hS : va_S A s.heap s.heap [] := va_S.rf
  have hP : va_P D vwCl [(a_this, .inr (1, [.ref a_changed, .ref a_before, .int g_size])), (a_changed, .inl (cI, 6, .inl g_changed)), (a_before, .inl (cL, 6, .inr (.inl g_before)))] s.heap := hP
  have hD : va_D A [(a_this, .inr (1, [.ref a_changed, .ref a_before, .int g_size])), (a_changed, .inl (cI, 6, .inl g_changed)), (a_before, .inl (cL, 6, .inr (.inl g_before)))] := hD
  have hl : lv_has ls 4 [(0, .ref a_this), (1, .int q1), (2, .long q2)] := hl
  have z1 : ∀ w ∈ u_ws RX1 TX1 3, w ∈ wsX1_keep := by decide +kernel
  have z2 := hts (.fieldLink RX1 11 "LittleSums$History" "changed" "[I") (by decide +kernel)
  have z3 := hts (.fieldLink RX1 19 "LittleSums$History" "size" "I") (by decide +kernel)
  have z4 := hts (.fieldLink RX1 15 "LittleSums$History" "before" "[J") (by decide +kernel)
  have z5 := hts (.methodLink RX1 23 arraycopyName) (by decide +kernel)
  have z6 := hts (.native arraycopyName) (by decide +kernel)
  have z7 := hts (.static arraycopyName) (by decide +kernel)
  have z8 := hts (.initialized "java/lang/System") (by decide +kernel)
  have w42 : ∀ (x1 : Int32) (x2 : Int64) (g_size : Int32) (g_changed : Nat → Int32) (g_before : Nat → Int64) (H : Heap) (locs : List Loc) (ls : Array Slot), bX1_keep_42 x1 x2 g_size g_changed g_before = some ((v_size, v_changed, v_before)) → va_P D vwCl [(a_this, .inr (1, [.ref a_changed, .ref a_before, .int g_size])), (a_changed, .inl (cI, 6, .inl g_changed)), (a_before, .inl (cL, 6, .inr (.inl g_before)))] H → va_D A [(a_this, .inr (1, [.ref a_changed, .ref a_before, .int g_size])), (a_changed, .inl (cI, 6, .inl g_changed)), (a_before, .inl (cL, 6, .inr (.inl g_before)))] → va_S A s.heap H locs → lv_has ls 4 [(0, .ref a_this), (1, .int x1), (2, .long x2)] → W p l e rmX1_keep s m ([.ref a_this, .int q1, .long q2] : List Value).toArray below meth c H locs 0 0 (MQ below (cQv D A [(a_this, .inr (1, [.ref a_changed, .ref a_before, .int v_size])), (a_changed, .inl (cI, 6, .inl v_changed)), (a_before, .inl (cL, 6, .inr (.inl v_before)))]) ([.ref a_this, .int q1, .long q2] : List Value).toArray s 0 0 A) (F0 m 42 ls []) := by
    intro x1 x2 g_size g_changed g_before H locs ls hf hP hD hS hl
    unfold bX1_keep_42 at hf
    refine lv_aload_n hx hb dX1_keep_42 rfl (lv_at hl 0 rfl) ?_
    refine va_get (D := D) (ci := 1) (v := .ref a_changed) (C := RX1) (T := TX1) (N := 3) hx hb hts z1 hown hN.1 hP 0 rfl rfl 0 (by decide) z2 (fun _ h9 => h9) rfl dX1_keep_43 ?_
    refine lv_aload_n hx hb dX1_keep_46 rfl (lv_at hl 0 rfl) ?_
    refine va_get (D := D) (ci := 1) (v := .int g_size) (C := RX1) (T := TX1) (N := 3) hx hb hts z1 hown hN.1 hP 0 rfl rfl 2 (by decide) z3 (fun _ h9 => h9) rfl dX1_keep_47 ?_
    refine lv_iload_n hx hb dX1_keep_50 rfl (lv_at hl 1 rfl) ?_
    obtain ⟨c1, hf⟩ := gd_some hf
    refine va_iast hx hb hN.1 hP hD hS 1 0 rfl rfl (ix_in c1) dX1_keep_51 (fun H locs hP hD hS => ?_)
    obtain ⟨y2, ey2⟩ : ∃ z, z = upd g_changed g_size.toNatClampNeg x1 := ⟨_, rfl⟩
    have hf := lt_some hf y2 ey2
    have hP : va_P D vwCl [(a_this, .inr (1, [.ref a_changed, .ref a_before, .int g_size])), (a_changed, .inl (cI, 6, .inl y2)), (a_before, .inl (cL, 6, .inr (.inl g_before)))] H := by rw [ey2]; exact hP
    have hD : va_D A [(a_this, .inr (1, [.ref a_changed, .ref a_before, .int g_size])), (a_changed, .inl (cI, 6, .inl y2)), (a_before, .inl (cL, 6, .inr (.inl g_before)))] := by rw [ey2]; exact hD
    refine lv_aload_n hx hb dX1_keep_52 rfl (lv_at hl 0 rfl) ?_
    refine va_get (D := D) (ci := 1) (v := .ref a_before) (C := RX1) (T := TX1) (N := 3) hx hb hts z1 hown hN.1 hP 0 rfl rfl 1 (by decide) z4 (fun _ h9 => h9) rfl dX1_keep_53 ?_
    refine lv_aload_n hx hb dX1_keep_56 rfl (lv_at hl 0 rfl) ?_
    refine va_get (D := D) (ci := 1) (v := .int g_size) (C := RX1) (T := TX1) (N := 3) hx hb hts z1 hown hN.1 hP 0 rfl rfl 2 (by decide) z3 (fun _ h9 => h9) rfl dX1_keep_57 ?_
    refine lv_lload_n hx hb dX1_keep_60 rfl (lv_at hl 2 rfl) ?_
    obtain ⟨c3, hf⟩ := gd_some hf
    refine va_last hx hb hN.1 hP hD hS 2 1 rfl rfl (ix_in c3) dX1_keep_61 (fun H locs hP hD hS => ?_)
    obtain ⟨y4, ey4⟩ : ∃ z, z = vp_updL g_before g_size.toNatClampNeg x2 := ⟨_, rfl⟩
    have hf := lt_some hf y4 ey4
    have hP : va_P D vwCl [(a_this, .inr (1, [.ref a_changed, .ref a_before, .int g_size])), (a_changed, .inl (cI, 6, .inl y2)), (a_before, .inl (cL, 6, .inr (.inl y4)))] H := by rw [ey4]; exact hP
    have hD : va_D A [(a_this, .inr (1, [.ref a_changed, .ref a_before, .int g_size])), (a_changed, .inl (cI, 6, .inl y2)), (a_before, .inl (cL, 6, .inr (.inl y4)))] := by rw [ey4]; exact hD
    refine lv_aload_n hx hb dX1_keep_62 rfl (lv_at hl 0 rfl) ?_
    refine lv_dup hx hb dX1_keep_63 rfl ?_
    refine va_get (D := D) (ci := 1) (v := .int g_size) (C := RX1) (T := TX1) (N := 3) hx hb hts z1 hown hN.1 hP 0 rfl rfl 2 (by decide) z3 (fun _ h9 => h9) rfl dX1_keep_64 ?_
    refine lv_iconst (v := 1) hx hb dX1_keep_67 (by decide) ?_
    refine lv_iadd hx hb dX1_keep_68 ?_
    refine lv_topi (fun y5 ey5 => ?_)
    have hf := lt_some hf y5 ey5
    refine va_put (D := D) (ci := 1) (v := .int y5) (ty := .int) (C := RX1) (T := TX1) (N := 3) hx hb hts z1 tyX1 tyX1_ok nmX1 hown hN.1 hP hD hS 0 rfl rfl 2 (by decide) z3 (fun _ h9 => h9) rfl (by decide +kernel) rfl rfl (Nat.le_of_ble_eq_true rfl) dX1_keep_69 (fun H locs hP hD hS => ?_)
    have hP : va_P D vwCl [(a_this, .inr (1, [.ref a_changed, .ref a_before, .int y5])), (a_changed, .inl (cI, 6, .inl y2)), (a_before, .inl (cL, 6, .inr (.inl y4)))] H := hP
    have hD : va_D A [(a_this, .inr (1, [.ref a_changed, .ref a_before, .int y5])), (a_changed, .inl (cI, 6, .inl y2)), (a_before, .inl (cL, 6, .inr (.inl y4)))] := hD
    have hE : (y5, y2, y4) = (v_size, v_changed, v_before) := Option.some.inj hf
    simp only [Prod.mk.injEq] at hE
    obtain ⟨rfl, rfl, rfl⟩ := hE
    exact rtV hx hb hr hlk hP hD hS dX1_keep_72
  unfold fX1_keep at hf
  obtain ⟨H, eH⟩ : ∃ z, z = s.heap := ⟨_, rfl⟩
  obtain ⟨locs, eL⟩ : ∃ z : List Loc, z = [] := ⟨_, rfl⟩
  have hP : va_P D vwCl [(a_this, .inr (1, [.ref a_changed, .ref a_before, .int g_size])), (a_changed, .inl (cI, 6, .inl g_changed)), (a_before, .inl (cL, 6, .inr (.inl g_before)))] H := by rw [eH]; exact hP
  have hS : va_S A s.heap H locs := by rw [eH, eL]; exact hS
  suffices hG : W p l e rmX1_keep s m ([.ref a_this, .int q1, .long q2] : List Value).toArray below meth c H locs 0 0 (MQ below (cQv D A [(a_this, .inr (1, [.ref a_changed, .ref a_before, .int v_size])), (a_changed, .inl (cI, 6, .inl v_changed)), (a_before, .inl (cL, 6, .inr (.inl v_before)))]) ([.ref a_this, .int q1, .long q2] : List Value).toArray s 0 0 A) (F0 m 0 ls []) by rw [eH, eL] at hG; exact hG
  refine lv_aload_n hx hb dX1_keep_0 rfl (lv_at hl 0 rfl) ?_
  refine va_get (D := D) (ci := 1) (v := .int g_size) (C := RX1) (T := TX1) (N := 3) hx hb hts z1 hown hN.1 hP 0 rfl rfl 2 (by decide) z3 (fun _ h9 => h9) rfl dX1_keep_1 ?_
  refine lv_bipush (v := 6) hx hb dX1_keep_4 (by decide) ?_
  refine lv_icmp_lt (tgt := 42) hx hb dX1_keep_6 (by decide) (fun c6 => ?_) (fun c6 => ?_)
  · have hf := br_pos c6 hf
    exact w42 q1 q2 g_size g_changed g_before H locs ls hf hP hD hS (lv_sub hl [0, 1, 2] rfl)
  · have hf := br_neg c6 hf
    refine lv_aload_n hx hb dX1_keep_9 rfl (lv_at hl 0 rfl) ?_
    refine va_get (D := D) (ci := 1) (v := .ref a_changed) (C := RX1) (T := TX1) (N := 3) hx hb hts z1 hown hN.1 hP 0 rfl rfl 0 (by decide) z2 (fun _ h9 => h9) rfl dX1_keep_10 ?_
    refine lv_iconst (v := 1) hx hb dX1_keep_13 (by decide) ?_
    refine lv_aload_n hx hb dX1_keep_14 rfl (lv_at hl 0 rfl) ?_
    refine va_get (D := D) (ci := 1) (v := .ref a_changed) (C := RX1) (T := TX1) (N := 3) hx hb hts z1 hown hN.1 hP 0 rfl rfl 0 (by decide) z2 (fun _ h9 => h9) rfl dX1_keep_15 ?_
    refine lv_iconst (v := 0) hx hb dX1_keep_18 (by decide) ?_
    refine lv_iconst (v := 5) hx hb dX1_keep_19 (by decide) ?_
    refine va_copyi (ty := .int) hx hb (by rw [hml]; exact hl.1.symm) hown z5 z6 z7 z8 hN.1 hP hD hS 1 1 0 0 rfl rfl rfl rfl rfl (by decide) (by decide) (by decide) (by decide) (by decide) (fun _ _ => rfl) (Nat.le_of_ble_eq_true rfl) (by decide) dX1_keep_20 (fun H locs hP hD hS => ?_)
    obtain ⟨y7, ey7⟩ : ∃ z, z = va_cpy g_changed g_changed (1 : Int32).toNatClampNeg (0 : Int32).toNatClampNeg (5 : Int32).toNatClampNeg := ⟨_, rfl⟩
    have hf := lt_some hf y7 ey7
    have hP : va_P D vwCl [(a_this, .inr (1, [.ref a_changed, .ref a_before, .int g_size])), (a_changed, .inl (cI, 6, .inl y7)), (a_before, .inl (cL, 6, .inr (.inl g_before)))] H := by rw [ey7]; exact hP
    have hD : va_D A [(a_this, .inr (1, [.ref a_changed, .ref a_before, .int g_size])), (a_changed, .inl (cI, 6, .inl y7)), (a_before, .inl (cL, 6, .inr (.inl g_before)))] := by rw [ey7]; exact hD
    refine lv_aload_n hx hb dX1_keep_23 rfl (lv_at hl 0 rfl) ?_
    refine va_get (D := D) (ci := 1) (v := .ref a_before) (C := RX1) (T := TX1) (N := 3) hx hb hts z1 hown hN.1 hP 0 rfl rfl 1 (by decide) z4 (fun _ h9 => h9) rfl dX1_keep_24 ?_
    refine lv_iconst (v := 1) hx hb dX1_keep_27 (by decide) ?_
    refine lv_aload_n hx hb dX1_keep_28 rfl (lv_at hl 0 rfl) ?_
    refine va_get (D := D) (ci := 1) (v := .ref a_before) (C := RX1) (T := TX1) (N := 3) hx hb hts z1 hown hN.1 hP 0 rfl rfl 1 (by decide) z4 (fun _ h9 => h9) rfl dX1_keep_29 ?_
    refine lv_iconst (v := 0) hx hb dX1_keep_32 (by decide) ?_
    refine lv_iconst (v := 5) hx hb dX1_keep_33 (by decide) ?_
    refine va_copyl (ty := .long) hx hb (by rw [hml]; exact hl.1.symm) hown z5 z6 z7 z8 hN.1 hP hD hS 2 2 1 1 rfl rfl rfl rfl rfl (by decide) (by decide) (by decide) (by decide) (by decide) (fun _ _ => rfl) (Nat.le_of_ble_eq_true rfl) (by decide) dX1_keep_34 (fun H locs hP hD hS => ?_)
    obtain ⟨y8, ey8⟩ : ∃ z, z = va_cpy g_before g_before (1 : Int32).toNatClampNeg (0 : Int32).toNatClampNeg (5 : Int32).toNatClampNeg := ⟨_, rfl⟩
    have hf := lt_some hf y8 ey8
    have hP : va_P D vwCl [(a_this, .inr (1, [.ref a_changed, .ref a_before, .int g_size])), (a_changed, .inl (cI, 6, .inl y7)), (a_before, .inl (cL, 6, .inr (.inl y8)))] H := by rw [ey8]; exact hP
    have hD : va_D A [(a_this, .inr (1, [.ref a_changed, .ref a_before, .int g_size])), (a_changed, .inl (cI, 6, .inl y7)), (a_before, .inl (cL, 6, .inr (.inl y8)))] := by rw [ey8]; exact hD
    refine lv_aload_n hx hb dX1_keep_37 rfl (lv_at hl 0 rfl) ?_
    refine lv_iconst (v := 5) hx hb dX1_keep_38 (by decide) ?_
    refine va_put (D := D) (ci := 1) (v := .int (5 : Int32)) (ty := .int) (C := RX1) (T := TX1) (N := 3) hx hb hts z1 tyX1 tyX1_ok nmX1 hown hN.1 hP hD hS 0 rfl rfl 2 (by decide) z3 (fun _ h9 => h9) rfl (by decide +kernel) rfl rfl (Nat.le_of_ble_eq_true rfl) dX1_keep_39 (fun H locs hP hD hS => ?_)
    have hP : va_P D vwCl [(a_this, .inr (1, [.ref a_changed, .ref a_before, .int (5 : Int32)])), (a_changed, .inl (cI, 6, .inl y7)), (a_before, .inl (cL, 6, .inr (.inl y8)))] H := hP
    have hD : va_D A [(a_this, .inr (1, [.ref a_changed, .ref a_before, .int (5 : Int32)])), (a_changed, .inl (cI, 6, .inl y7)), (a_before, .inl (cL, 6, .inr (.inl y8)))] := hD
    exact w42 q1 q2 (5 : Int32) y7 y8 H locs ls hf hP hD hS (lv_sub hl [0, 1, 2] rfl)
abbrev rmX1_latestSlot : Room := { frames := 0, cells := 0, slots := 0, locals := 0 }
noncomputable def fX1_latestSlot (g_size : Int32) (g_changed : Nat → Int32) : Option (Int32) := br (g_size ≤ 0) (some ((-4 : Int32))) (gd (¬ (g_size - (1 : Int32)) < 0 ∧ (g_size - (1 : Int32)).toNatClampNeg < 6) (some (g_changed (g_size - (1 : Int32)).toNatClampNeg)))
set_option maxHeartbeats 4000000 in
set_option maxRecDepth 100000 in
theorem cX1_latestSlot_ct (l : Launch) (D : va_G) (cI cL cC cZ : ClassId) (a_this a_changed a_before : Nat) (g_size : Int32) (g_changed : Nat → Int32) (r0 : Int32) (hf : fX1_latestSlot g_size g_changed = some r0) : CtI l yX1_latestSlot wsX1_latestSlot rmX1_latestSlot D (tyz cI cL cC cZ) [.ref a_this] [(a_this, .inr (1, [.ref a_changed, .ref a_before, .int g_size])), (a_changed, .inl (cI, 6, .inl g_changed))] [(a_this, .inr (1, [.ref a_changed, .ref a_before, .int g_size])), (a_changed, .inl (cI, 6, .inl g_changed))] r0 := by
  refine CtI.make (cc := cX1_latestSlot) (maxL := 1) (ty := .int) (by decide) rfl (Nat.le_of_ble_eq_true rfl) ?_
  intro p e s m below meth c A ls C0 hN hA hP hD hl
  obtain ⟨hx, hb, hr, hml, hown, hts, hlk⟩ := id C0
  have hown : s.vm.findClass RX1 = some m.cls := hown
  have hS : va_S A s.heap s.heap [] := va_S.rf
  have hP : va_P D vwCl [(a_this, .inr (1, [.ref a_changed, .ref a_before, .int g_size])), (a_changed, .inl (cI, 6, .inl g_changed))] s.heap := hP
  have hD : va_D A [(a_this, .inr (1, [.ref a_changed, .ref a_before, .int g_size])), (a_changed, .inl (cI, 6, .inl g_changed))] := hD
  have hl : lv_has ls 1 [(0, .ref a_this)] := hl
  have z1 : ∀ w ∈ u_ws RX1 TX1 3, w ∈ wsX1_latestSlot := by decide +kernel
  have z2 := hts (.fieldLink RX1 19 "LittleSums$History" "size" "I") (by decide +kernel)
  have z3 := hts (.fieldLink RX1 11 "LittleSums$History" "changed" "[I") (by decide +kernel)
  unfold fX1_latestSlot at hf
  obtain ⟨H, eH⟩ : ∃ z, z = s.heap := ⟨_, rfl⟩
  obtain ⟨locs, eL⟩ : ∃ z : List Loc, z = [] := ⟨_, rfl⟩
  have hP : va_P D vwCl [(a_this, .inr (1, [.ref a_changed, .ref a_before, .int g_size])), (a_changed, .inl (cI, 6, .inl g_changed))] H := by rw [eH]; exact hP
  have hS : va_S A s.heap H locs := by rw [eH, eL]; exact hS
  suffices hG : W p l e rmX1_latestSlot s m ([.ref a_this] : List Value).toArray below meth c H locs 0 0 (MQ below (cQi D r0 A [(a_this, .inr (1, [.ref a_changed, .ref a_before, .int g_size])), (a_changed, .inl (cI, 6, .inl g_changed))]) ([.ref a_this] : List Value).toArray s 0 0 A) (F0 m 0 ls []) by rw [eH, eL] at hG; exact hG
  refine lv_aload_n hx hb dX1_latestSlot_0 rfl (lv_at hl 0 rfl) ?_
  refine va_get (D := D) (ci := 1) (v := .int g_size) (C := RX1) (T := TX1) (N := 3) hx hb hts z1 hown hN.1 hP 0 rfl rfl 2 (by decide) z2 (fun _ h9 => h9) rfl dX1_latestSlot_1 ?_
  refine lv_if_le (tgt := 21) hx hb dX1_latestSlot_4 (by decide) (fun c1 => ?_) (fun c1 => ?_)
  · have hf := br_pos c1 hf
    refine lv_bipush (v := -4) hx hb dX1_latestSlot_21 (by decide) ?_
    have hE : (-4 : Int32) = r0 := Option.some.inj hf
    subst hE
    exact rtI hx hb hr hlk hP hD hS dX1_latestSlot_23
  · have hf := br_neg c1 hf
    refine lv_aload_n hx hb dX1_latestSlot_7 rfl (lv_at hl 0 rfl) ?_
    refine va_get (D := D) (ci := 1) (v := .ref a_changed) (C := RX1) (T := TX1) (N := 3) hx hb hts z1 hown hN.1 hP 0 rfl rfl 0 (by decide) z3 (fun _ h9 => h9) rfl dX1_latestSlot_8 ?_
    refine lv_aload_n hx hb dX1_latestSlot_11 rfl (lv_at hl 0 rfl) ?_
    refine va_get (D := D) (ci := 1) (v := .int g_size) (C := RX1) (T := TX1) (N := 3) hx hb hts z1 hown hN.1 hP 0 rfl rfl 2 (by decide) z2 (fun _ h9 => h9) rfl dX1_latestSlot_12 ?_
    refine lv_iconst (v := 1) hx hb dX1_latestSlot_15 (by decide) ?_
    refine lv_isub hx hb dX1_latestSlot_16 ?_
    obtain ⟨c2, hf⟩ := gd_some hf
    refine va_iald hx hb hN.1 hP 1 0 rfl rfl (ix_in c2) dX1_latestSlot_17 ?_
    refine lv_goto (tgt := 23) hx hb dX1_latestSlot_18 (by decide) ?_
    have hE : g_changed (g_size - (1 : Int32)).toNatClampNeg = r0 := Option.some.inj hf
    subst hE
    exact rtI hx hb hr hlk hP hD hS dX1_latestSlot_23
abbrev rmX1_latestSet : Room := { frames := 0, cells := 0, slots := 0, locals := 0 }
noncomputable def fX1_latestSet (g_size : Int32) (g_before : Nat → Int64) : Option (Int64) := br (g_size ≤ 0) (some ((0 : Int64))) (gd (¬ (g_size - (1 : Int32)) < 0 ∧ (g_size - (1 : Int32)).toNatClampNeg < 6) (some (g_before (g_size - (1 : Int32)).toNatClampNeg)))
set_option maxHeartbeats 4000000 in
set_option maxRecDepth 100000 in
theorem cX1_latestSet_ct (l : Launch) (D : va_G) (cI cL cC cZ : ClassId) (a_this a_changed a_before : Nat) (g_size : Int32) (g_before : Nat → Int64) (r0 : Int64) (hf : fX1_latestSet g_size g_before = some r0) : CtL l yX1_latestSet wsX1_latestSet rmX1_latestSet D (tyz cI cL cC cZ) [.ref a_this] [(a_this, .inr (1, [.ref a_changed, .ref a_before, .int g_size])), (a_before, .inl (cL, 6, .inr (.inl g_before)))] [(a_this, .inr (1, [.ref a_changed, .ref a_before, .int g_size])), (a_before, .inl (cL, 6, .inr (.inl g_before)))] r0 := by
  refine CtL.make (cc := cX1_latestSet) (maxL := 1) (ty := .long) (by decide) rfl (Nat.le_of_ble_eq_true rfl) ?_
  intro p e s m below meth c A ls C0 hN hA hP hD hl
  obtain ⟨hx, hb, hr, hml, hown, hts, hlk⟩ := id C0
  have hown : s.vm.findClass RX1 = some m.cls := hown
  have hS : va_S A s.heap s.heap [] := va_S.rf
  have hP : va_P D vwCl [(a_this, .inr (1, [.ref a_changed, .ref a_before, .int g_size])), (a_before, .inl (cL, 6, .inr (.inl g_before)))] s.heap := hP
  have hD : va_D A [(a_this, .inr (1, [.ref a_changed, .ref a_before, .int g_size])), (a_before, .inl (cL, 6, .inr (.inl g_before)))] := hD
  have hl : lv_has ls 1 [(0, .ref a_this)] := hl
  have z1 : ∀ w ∈ u_ws RX1 TX1 3, w ∈ wsX1_latestSet := by decide +kernel
  have z2 := hts (.fieldLink RX1 19 "LittleSums$History" "size" "I") (by decide +kernel)
  have z3 := hts (.fieldLink RX1 15 "LittleSums$History" "before" "[J") (by decide +kernel)
  unfold fX1_latestSet at hf
  obtain ⟨H, eH⟩ : ∃ z, z = s.heap := ⟨_, rfl⟩
  obtain ⟨locs, eL⟩ : ∃ z : List Loc, z = [] := ⟨_, rfl⟩
  have hP : va_P D vwCl [(a_this, .inr (1, [.ref a_changed, .ref a_before, .int g_size])), (a_before, .inl (cL, 6, .inr (.inl g_before)))] H := by rw [eH]; exact hP
  have hS : va_S A s.heap H locs := by rw [eH, eL]; exact hS
  suffices hG : W p l e rmX1_latestSet s m ([.ref a_this] : List Value).toArray below meth c H locs 0 0 (MQ below (cQl D r0 A [(a_this, .inr (1, [.ref a_changed, .ref a_before, .int g_size])), (a_before, .inl (cL, 6, .inr (.inl g_before)))]) ([.ref a_this] : List Value).toArray s 0 0 A) (F0 m 0 ls []) by rw [eH, eL] at hG; exact hG
  refine lv_aload_n hx hb dX1_latestSet_0 rfl (lv_at hl 0 rfl) ?_
  refine va_get (D := D) (ci := 1) (v := .int g_size) (C := RX1) (T := TX1) (N := 3) hx hb hts z1 hown hN.1 hP 0 rfl rfl 2 (by decide) z2 (fun _ h9 => h9) rfl dX1_latestSet_1 ?_
  refine lv_if_le (tgt := 21) hx hb dX1_latestSet_4 (by decide) (fun c1 => ?_) (fun c1 => ?_)
  · have hf := br_pos c1 hf
    refine lv_lconst (v := 0) hx hb dX1_latestSet_21 (by decide) ?_
    have hE : (0 : Int64) = r0 := Option.some.inj hf
    subst hE
    exact rtL hx hb hr hlk hP hD hS dX1_latestSet_22
  · have hf := br_neg c1 hf
    refine lv_aload_n hx hb dX1_latestSet_7 rfl (lv_at hl 0 rfl) ?_
    refine va_get (D := D) (ci := 1) (v := .ref a_before) (C := RX1) (T := TX1) (N := 3) hx hb hts z1 hown hN.1 hP 0 rfl rfl 1 (by decide) z3 (fun _ h9 => h9) rfl dX1_latestSet_8 ?_
    refine lv_aload_n hx hb dX1_latestSet_11 rfl (lv_at hl 0 rfl) ?_
    refine va_get (D := D) (ci := 1) (v := .int g_size) (C := RX1) (T := TX1) (N := 3) hx hb hts z1 hown hN.1 hP 0 rfl rfl 2 (by decide) z2 (fun _ h9 => h9) rfl dX1_latestSet_12 ?_
    refine lv_iconst (v := 1) hx hb dX1_latestSet_15 (by decide) ?_
    refine lv_isub hx hb dX1_latestSet_16 ?_
    obtain ⟨c2, hf⟩ := gd_some hf
    refine va_lald hx hb hN.1 hP 1 1 rfl rfl (ix_in c2) dX1_latestSet_17 ?_
    refine lv_goto (tgt := 22) hx hb dX1_latestSet_18 (by decide) ?_
    have hE : g_before (g_size - (1 : Int32)).toNatClampNeg = r0 := Option.some.inj hf
    subst hE
    exact rtL hx hb hr hlk hP hD hS dX1_latestSet_22
abbrev rmX1_dropLatest : Room := { frames := 0, cells := 0, slots := 0, locals := 0 }
noncomputable def fX1_dropLatest (g_size : Int32) : Option (Int32) := br (g_size ≤ 0) (some (g_size)) (lt_ (g_size - (1 : Int32)) (fun y2 => some (y2)))
set_option maxHeartbeats 4000000 in
set_option maxRecDepth 100000 in
theorem cX1_dropLatest_ct (l : Launch) (D : va_G) (cI cL cC cZ : ClassId) (a_this a_changed a_before : Nat) (g_size : Int32) (v_size : Int32) (hf : fX1_dropLatest g_size = some v_size) : CtV l yX1_dropLatest wsX1_dropLatest rmX1_dropLatest D (tyz cI cL cC cZ) [.ref a_this] [(a_this, .inr (1, [.ref a_changed, .ref a_before, .int g_size]))] [(a_this, .inr (1, [.ref a_changed, .ref a_before, .int v_size]))] := by
  refine CtV.make (cc := cX1_dropLatest) (maxL := 1) (by decide) rfl (Nat.le_of_ble_eq_true rfl) ?_
  intro p e s m below meth c A ls C0 hN hA hP hD hl
  obtain ⟨hx, hb, hr, hml, hown, hts, hlk⟩ := id C0
  have hown : s.vm.findClass RX1 = some m.cls := hown
  have hS : va_S A s.heap s.heap [] := va_S.rf
  have hP : va_P D vwCl [(a_this, .inr (1, [.ref a_changed, .ref a_before, .int g_size]))] s.heap := hP
  have hD : va_D A [(a_this, .inr (1, [.ref a_changed, .ref a_before, .int g_size]))] := hD
  have hl : lv_has ls 1 [(0, .ref a_this)] := hl
  have z1 : ∀ w ∈ u_ws RX1 TX1 3, w ∈ wsX1_dropLatest := by decide +kernel
  have z2 := hts (.fieldLink RX1 19 "LittleSums$History" "size" "I") (by decide +kernel)
  unfold fX1_dropLatest at hf
  obtain ⟨H, eH⟩ : ∃ z, z = s.heap := ⟨_, rfl⟩
  obtain ⟨locs, eL⟩ : ∃ z : List Loc, z = [] := ⟨_, rfl⟩
  have hP : va_P D vwCl [(a_this, .inr (1, [.ref a_changed, .ref a_before, .int g_size]))] H := by rw [eH]; exact hP
  have hS : va_S A s.heap H locs := by rw [eH, eL]; exact hS
  suffices hG : W p l e rmX1_dropLatest s m ([.ref a_this] : List Value).toArray below meth c H locs 0 0 (MQ below (cQv D A [(a_this, .inr (1, [.ref a_changed, .ref a_before, .int v_size]))]) ([.ref a_this] : List Value).toArray s 0 0 A) (F0 m 0 ls []) by rw [eH, eL] at hG; exact hG
  refine lv_aload_n hx hb dX1_dropLatest_0 rfl (lv_at hl 0 rfl) ?_
  refine va_get (D := D) (ci := 1) (v := .int g_size) (C := RX1) (T := TX1) (N := 3) hx hb hts z1 hown hN.1 hP 0 rfl rfl 2 (by decide) z2 (fun _ h9 => h9) rfl dX1_dropLatest_1 ?_
  refine lv_if_le (tgt := 17) hx hb dX1_dropLatest_4 (by decide) (fun c1 => ?_) (fun c1 => ?_)
  · have hf := br_pos c1 hf
    have hE : g_size = v_size := Option.some.inj hf
    subst hE
    exact rtV hx hb hr hlk hP hD hS dX1_dropLatest_17
  · have hf := br_neg c1 hf
    refine lv_aload_n hx hb dX1_dropLatest_7 rfl (lv_at hl 0 rfl) ?_
    refine lv_dup hx hb dX1_dropLatest_8 rfl ?_
    refine va_get (D := D) (ci := 1) (v := .int g_size) (C := RX1) (T := TX1) (N := 3) hx hb hts z1 hown hN.1 hP 0 rfl rfl 2 (by decide) z2 (fun _ h9 => h9) rfl dX1_dropLatest_9 ?_
    refine lv_iconst (v := 1) hx hb dX1_dropLatest_12 (by decide) ?_
    refine lv_isub hx hb dX1_dropLatest_13 ?_
    refine lv_topi (fun y2 ey2 => ?_)
    have hf := lt_some hf y2 ey2
    refine va_put (D := D) (ci := 1) (v := .int y2) (ty := .int) (C := RX1) (T := TX1) (N := 3) hx hb hts z1 tyX1 tyX1_ok nmX1 hown hN.1 hP hD hS 0 rfl rfl 2 (by decide) z2 (fun _ h9 => h9) rfl (by decide +kernel) rfl rfl (Nat.le_of_ble_eq_true rfl) dX1_dropLatest_14 (fun H locs hP hD hS => ?_)
    have hP : va_P D vwCl [(a_this, .inr (1, [.ref a_changed, .ref a_before, .int y2]))] H := hP
    have hD : va_D A [(a_this, .inr (1, [.ref a_changed, .ref a_before, .int y2]))] := hD
    have hE : y2 = v_size := Option.some.inj hf
    subst hE
    exact rtV hx hb hr hlk hP hD hS dX1_dropLatest_17
abbrev rmX7_isNumber : Room := { frames := 0, cells := 0, slots := 0, locals := 0 }
noncomputable def bX7_isNumber_14 : Option (Int32) := gd ((0 : Int32) = 0 ∨ (0 : Int32) = 1) (some ((0 : Int32)))
noncomputable def fX7_isNumber (q0 : Int32) : Option (Int32) := br (q0 < 0) (bX7_isNumber_14) (br ((40 : Int32) < q0) (bX7_isNumber_14) (gd ((1 : Int32) = 0 ∨ (1 : Int32) = 1) (some ((1 : Int32)))))
set_option maxHeartbeats 4000000 in
set_option maxRecDepth 100000 in
theorem cX7_isNumber_ct (l : Launch) (D : va_G) (cI cL cC cZ : ClassId) (q0 : Int32) (r0 : Int32) (hf : fX7_isNumber q0 = some r0) : CtI l yX7_isNumber wsX7_isNumber rmX7_isNumber D (tyz cI cL cC cZ) [.int q0] [] [] r0 := by
  refine CtI.make (cc := cX7_isNumber) (maxL := 1) (ty := .boolean) (by decide) rfl (Nat.le_of_ble_eq_true rfl) ?_
  intro p e s m below meth c A ls C0 hN hA hP hD hl
  obtain ⟨hx, hb, hr, hml, hown, hts, hlk⟩ := id C0
  have hown : s.vm.findClass RX7 = some m.cls := hown
  have hS : va_S A s.heap s.heap [] := va_S.rf
  have hP : va_P D vwCl [] s.heap := hP
  have hD : va_D A [] := hD
  have hl : lv_has ls 1 [(0, .int q0)] := hl
  have w14 : ∀ (H : Heap) (locs : List Loc) (ls : Array Slot), bX7_isNumber_14 = some r0 → va_P D vwCl [] H → va_D A [] → va_S A s.heap H locs → lv_has ls 1 [] → W p l e rmX7_isNumber s m ([.int q0] : List Value).toArray below meth c H locs 0 0 (MQ below (cQi D r0 A []) ([.int q0] : List Value).toArray s 0 0 A) (F0 m 14 ls []) := by
    intro  H locs ls hf hP hD hS hl
    unfold bX7_isNumber_14 at hf
    refine lv_iconst (v := 0) hx hb dX7_isNumber_14 (by decide) ?_
    obtain ⟨c1, hf⟩ := gd_some hf
    have hE : (0 : Int32) = r0 := Option.some.inj hf
    subst hE
    exact rtZ hx hb hr hlk c1 hP hD hS dX7_isNumber_15
  unfold fX7_isNumber at hf
  obtain ⟨H, eH⟩ : ∃ z, z = s.heap := ⟨_, rfl⟩
  obtain ⟨locs, eL⟩ : ∃ z : List Loc, z = [] := ⟨_, rfl⟩
  have hP : va_P D vwCl [] H := by rw [eH]; exact hP
  have hS : va_S A s.heap H locs := by rw [eH, eL]; exact hS
  suffices hG : W p l e rmX7_isNumber s m ([.int q0] : List Value).toArray below meth c H locs 0 0 (MQ below (cQi D r0 A []) ([.int q0] : List Value).toArray s 0 0 A) (F0 m 0 ls []) by rw [eH, eL] at hG; exact hG
  refine lv_iload_n hx hb dX7_isNumber_0 rfl (lv_at hl 0 rfl) ?_
  refine lv_if_lt (tgt := 14) hx hb dX7_isNumber_1 (by decide) (fun c2 => ?_) (fun c2 => ?_)
  · have hf := br_pos c2 hf
    exact w14  H locs ls hf hP hD hS (lv_sub hl [] rfl)
  · have hf := br_neg c2 hf
    refine lv_iload_n hx hb dX7_isNumber_4 rfl (lv_at hl 0 rfl) ?_
    refine lv_bipush (v := 40) hx hb dX7_isNumber_5 (by decide) ?_
    refine lv_icmp_gt (tgt := 14) hx hb dX7_isNumber_7 (by decide) (fun c3 => ?_) (fun c3 => ?_)
    · have hf := br_pos c3 hf
      exact w14  H locs ls hf hP hD hS (lv_sub hl [] rfl)
    · have hf := br_neg c3 hf
      refine lv_iconst (v := 1) hx hb dX7_isNumber_10 (by decide) ?_
      refine lv_goto (tgt := 15) hx hb dX7_isNumber_11 (by decide) ?_
      obtain ⟨c4, hf⟩ := gd_some hf
      have hE : (1 : Int32) = r0 := Option.some.inj hf
      subst hE
      exact rtZ hx hb hr hlk c4 hP hD hS dX7_isNumber_15
abbrev rmX7_has : Room := { frames := 1, cells := 0, slots := 0, locals := 20 }
noncomputable def bX7_has_21 : Option (Int32) := gd ((0 : Int32) = 0 ∨ (0 : Int32) = 1) (some ((0 : Int32)))
noncomputable def fX7_has (q0 : Int64) (q2 : Int32) : Option (Int32) := bd (fX7_isNumber q2) (fun u2 => br (u2 = 0) (bX7_has_21) (br ((lg_cmp (((q0.toUInt64 >>> (q2.toInt64.toUInt64 &&& Int64.toUInt64 63)).toInt64) &&& (1 : Int64)) (0 : Int64)) = 0) (bX7_has_21) (gd ((1 : Int32) = 0 ∨ (1 : Int32) = 1) (some ((1 : Int32))))))
set_option maxHeartbeats 4000000 in
set_option maxRecDepth 100000 in
theorem cX7_has_ct (l : Launch) (D : va_G) (cI cL cC cZ : ClassId) (q0 : Int64) (q2 : Int32) (r0 : Int32) (hf : fX7_has q0 q2 = some r0) : CtI l yX7_has wsX7_has rmX7_has D (tyz cI cL cC cZ) [.long q0, .int q2] [] [] r0 := by
  refine CtI.make (cc := cX7_has) (maxL := 3) (ty := .boolean) (by decide) rfl (Nat.le_of_ble_eq_true rfl) ?_
  intro p e s m below meth c A ls C0 hN hA hP hD hl
  obtain ⟨hx, hb, hr, hml, hown, hts, hlk⟩ := id C0
  have hown : s.vm.findClass RX7 = some m.cls := hown
  have hS : va_S A s.heap s.heap [] := va_S.rf
  have hP : va_P D vwCl [] s.heap := hP
  have hD : va_D A [] := hD
  have hl : lv_has ls 3 [(0, .long q0), (2, .int q2)] := hl
  have z1 := va_cwS (R := rmX7_has) (rm := rmX7_isNumber) (mc := 0) (ms := 0) 1 hts gX7_has_X7_isNumber rfl rfl rfl (by decide +kernel) ⟨Nat.le_of_ble_eq_true rfl, Nat.le_of_ble_eq_true rfl⟩
  have w21 : ∀ (H : Heap) (locs : List Loc) (ls : Array Slot), bX7_has_21 = some r0 → va_P D vwCl [] H → va_D A [] → va_S A s.heap H locs → lv_has ls 3 [] → W p l e rmX7_has s m ([.long q0, .int q2] : List Value).toArray below meth c H locs 0 0 (MQ below (cQi D r0 A []) ([.long q0, .int q2] : List Value).toArray s 0 0 A) (F0 m 21 ls []) := by
    intro  H locs ls hf hP hD hS hl
    unfold bX7_has_21 at hf
    refine lv_iconst (v := 0) hx hb dX7_has_21 (by decide) ?_
    obtain ⟨c1, hf⟩ := gd_some hf
    have hE : (0 : Int32) = r0 := Option.some.inj hf
    subst hE
    exact rtZ hx hb hr hlk c1 hP hD hS dX7_has_22
  unfold fX7_has at hf
  obtain ⟨H, eH⟩ : ∃ z, z = s.heap := ⟨_, rfl⟩
  obtain ⟨locs, eL⟩ : ∃ z : List Loc, z = [] := ⟨_, rfl⟩
  have hP : va_P D vwCl [] H := by rw [eH]; exact hP
  have hS : va_S A s.heap H locs := by rw [eH, eL]; exact hS
  suffices hG : W p l e rmX7_has s m ([.long q0, .int q2] : List Value).toArray below meth c H locs 0 0 (MQ below (cQi D r0 A []) ([.long q0, .int q2] : List Value).toArray s 0 0 A) (F0 m 0 ls []) by rw [eH, eL] at hG; exact hG
  refine lv_iload_n hx hb dX7_has_0 rfl (lv_at hl 1 rfl) ?_
  obtain ⟨u2, hu2, hf⟩ := bd_some hf
  refine caSI (rest := []) (As := [.int q2]) (wr := []) (wo := []) ⟨hx, hb, hml, hown, hts⟩ hN hP hD hS hA (cX7_isNumber_ct l D cI cL cC cZ q2 u2 hu2) z1 [] [] [] rfl (by decide) rfl (by decide) (by decide) rfl (by decide) rfl hl.1 rfl (Nat.le_of_ble_eq_true rfl) dX7_has_1 ⟨Nat.zero_le _, Nat.zero_le _⟩ (fun H locs hP hD hS => ?_)
  refine lv_if_eq (tgt := 21) hx hb dX7_has_4 (by decide) (fun c3 => ?_) (fun c3 => ?_)
  · have hf := br_pos c3 hf
    exact w21  H locs ls hf hP hD hS (lv_sub hl [] rfl)
  · have hf := br_neg c3 hf
    refine lv_lload_n hx hb dX7_has_7 rfl (lv_at hl 0 rfl) ?_
    refine lv_iload_n hx hb dX7_has_8 rfl (lv_at hl 1 rfl) ?_
    refine lv_lushr hx hb dX7_has_9 rfl ?_
    refine lv_lconst (v := 1) hx hb dX7_has_10 (by decide) ?_
    refine lv_land hx hb dX7_has_11 ?_
    refine lv_lconst (v := 0) hx hb dX7_has_12 (by decide) ?_
    refine W.lcmp hx hb dX7_has_13 ?_
    refine lv_if_eq (tgt := 21) hx hb dX7_has_14 (by decide) (fun c4 => ?_) (fun c4 => ?_)
    · have hf := br_pos c4 hf
      exact w21  H locs ls hf hP hD hS (lv_sub hl [] rfl)
    · have hf := br_neg c4 hf
      refine lv_iconst (v := 1) hx hb dX7_has_17 (by decide) ?_
      refine lv_goto (tgt := 22) hx hb dX7_has_18 (by decide) ?_
      obtain ⟨c5, hf⟩ := gd_some hf
      have hE : (1 : Int32) = r0 := Option.some.inj hf
      subst hE
      exact rtZ hx hb hr hlk c5 hP hD hS dX7_has_22
abbrev rmX7_listNumbers : Room := { frames := 2, cells := 0, slots := 0, locals := 42 }
noncomputable def bX7_listNumbers_35 (n_p2 : Nat) (x0 : Int64) (x3 : Int32) (x4 : Int32) (g_p2 : Nat → Int32) : Option ((Int32 × Int32 × (Nat → Int32)) ⊕ (Int32 × (Nat → Int32))) := lt_ (x4 + (1 : Int32)) (fun y1 => some (Sum.inl ((x3, y1, g_p2))))
noncomputable def bX7_listNumbers_5 (n_p2 : Nat) (x0 : Int64) (x3 : Int32) (x4 : Int32) (g_p2 : Nat → Int32) : Option ((Int32 × Int32 × (Nat → Int32)) ⊕ (Int32 × (Nat → Int32))) := br ((40 : Int32) < x4) (some (Sum.inr ((x3, g_p2)))) (br ((Int32.ofNat n_p2) ≤ x3) (some (Sum.inr ((x3, g_p2)))) (bd (fX7_has x0 x4) (fun u4 => br (u4 = 0) (bX7_listNumbers_35 n_p2 x0 x3 x4 g_p2) (lt_ (x3 + (1 : Int32)) (fun y6 => gd (¬ x3 < 0 ∧ x3.toNatClampNeg < n_p2) (lt_ (upd g_p2 x3.toNatClampNeg x4) (fun y8 => bX7_listNumbers_35 n_p2 x0 y6 x4 y8)))))))
noncomputable def sX7_listNumbers_5 (x0 : Int64) (n_p2 : Nat) : (Int32 × Int32 × (Nat → Int32)) → Option ((Int32 × Int32 × (Nat → Int32)) ⊕ (Int32 × (Nat → Int32))) := fun q => bX7_listNumbers_5 n_p2 x0 q.1 q.2.1 q.2.2
noncomputable def fX7_listNumbers (q0 : Int64) (n_p2 : Nat) (g_p2 : Nat → Int32) : Option (Int32 × (Nat → Int32)) := run (sX7_listNumbers_5 q0 n_p2) (((0 : Int32), (0 : Int32), g_p2))
set_option maxHeartbeats 4000000 in
set_option maxRecDepth 100000 in
theorem cX7_listNumbers_ct (l : Launch) (D : va_G) (cI cL cC cZ : ClassId) (a_p2 : Nat) (n_p2 : Nat) (g_p2 : Nat → Int32) (q0 : Int64) (r0 : Int32) (v_p2 : Nat → Int32) (hf : fX7_listNumbers q0 n_p2 g_p2 = some ((r0, v_p2))) : CtI l yX7_listNumbers wsX7_listNumbers rmX7_listNumbers D (tyz cI cL cC cZ) [.long q0, .ref a_p2] [(a_p2, .inl (cI, n_p2, .inl g_p2))] [(a_p2, .inl (cI, n_p2, .inl v_p2))] r0 := by
  refine CtI.make (cc := cX7_listNumbers) (maxL := 5) (ty := .int) (by decide) rfl (Nat.le_of_ble_eq_true rfl) ?_
  intro p e s m below meth c A ls C0 hN hA hP hD hl
  obtain ⟨hx, hb, hr, hml, hown, hts, hlk⟩ := id C0
  have hown : s.vm.findClass RX7 = some m.cls := hown
  have hS : va_S A s.heap s.heap [] := va_S.rf
  have hP : va_P D vwCl [(a_p2, .inl (cI, n_p2, .inl g_p2))] s.heap := hP
  have hD : va_D A [(a_p2, .inl (cI, n_p2, .inl g_p2))] := hD
  have hl : lv_has ls 5 [(0, .long q0), (2, .ref a_p2)] := hl
  have z1 := va_cwS (R := rmX7_listNumbers) (rm := rmX7_has) (mc := 0) (ms := 0) 2 hts gX7_listNumbers_X7_has rfl rfl rfl (by decide +kernel) ⟨Nat.le_of_ble_eq_true rfl, Nat.le_of_ble_eq_true rfl⟩
  have w5 : ∀ (x0 : Int64) (x3 : Int32) (x4 : Int32) (g_p2 : Nat → Int32) (t : Int32 × (Nat → Int32)) (H : Heap) (locs : List Loc) (ls : Array Slot), run (sX7_listNumbers_5 x0 n_p2) ((x3, x4, g_p2)) = some t → (fun z => z = (r0, v_p2)) t → va_P D vwCl [(a_p2, .inl (cI, n_p2, .inl g_p2))] H → va_D A [(a_p2, .inl (cI, n_p2, .inl g_p2))] → va_S A s.heap H locs → lv_has ls 5 [(0, .long x0), (2, .ref a_p2), (3, .int x3), (4, .int x4)] → W p l e rmX7_listNumbers s m ([.long q0, .ref a_p2] : List Value).toArray below meth c H locs 0 0 (MQ below (cQi D r0 A [(a_p2, .inl (cI, n_p2, .inl v_p2))]) ([.long q0, .ref a_p2] : List Value).toArray s 0 0 A) (F0 m 5 ls []) := by
    intro x0
    obtain ⟨F5, eF5⟩ : ∃ F : (Int32 × Int32 × (Nat → Int32)) → Prop, F = fun q => ∀ (H : Heap) (locs : List Loc) (ls : Array Slot), va_P D vwCl [(a_p2, .inl (cI, n_p2, .inl q.2.2))] H → va_D A [(a_p2, .inl (cI, n_p2, .inl q.2.2))] → va_S A s.heap H locs → lv_has ls 5 [(0, .long x0), (2, .ref a_p2), (3, .int q.1), (4, .int q.2.1)] → W p l e rmX7_listNumbers s m ([.long q0, .ref a_p2] : List Value).toArray below meth c H locs 0 0 (MQ below (cQi D r0 A [(a_p2, .inl (cI, n_p2, .inl v_p2))]) ([.long q0, .ref a_p2] : List Value).toArray s 0 0 A) (F0 m 5 ls []) := ⟨_, rfl⟩
    have key : ∀ (q : Int32 × Int32 × (Nat → Int32)) (t : Int32 × (Nat → Int32)), run (sX7_listNumbers_5 x0 n_p2) q = some t → (fun z => z = (r0, v_p2)) t → F5 q := by
      refine loop_rule (sX7_listNumbers_5 x0 n_p2) F5 (fun z => z = (r0, v_p2)) ?_
      intro q t hf hF
      have hF : (Sum.elim F5 (fun z => z = (r0, v_p2))) t := hF
      have w35 : ∀ (x3 : Int32) (x4 : Int32) (g_p2 : Nat → Int32) (t : (Int32 × Int32 × (Nat → Int32)) ⊕ (Int32 × (Nat → Int32))) (H : Heap) (locs : List Loc) (ls : Array Slot), bX7_listNumbers_35 n_p2 x0 x3 x4 g_p2 = some t → (Sum.elim F5 (fun z => z = (r0, v_p2))) t → va_P D vwCl [(a_p2, .inl (cI, n_p2, .inl g_p2))] H → va_D A [(a_p2, .inl (cI, n_p2, .inl g_p2))] → va_S A s.heap H locs → lv_has ls 5 [(0, .long x0), (2, .ref a_p2), (3, .int x3), (4, .int x4)] → W p l e rmX7_listNumbers s m ([.long q0, .ref a_p2] : List Value).toArray below meth c H locs 0 0 (MQ below (cQi D r0 A [(a_p2, .inl (cI, n_p2, .inl v_p2))]) ([.long q0, .ref a_p2] : List Value).toArray s 0 0 A) (F0 m 35 ls []) := by
        intro x3 x4 g_p2 t H locs ls hf hF hP hD hS hl
        unfold bX7_listNumbers_35 at hf
        obtain ⟨y1, ey1⟩ : ∃ z : Int32, z = x4 + (1 : Int32) := ⟨_, rfl⟩
        have hf := lt_some hf y1 ey1
        refine lv_iinc (v := y1) (lv' := [(4, .int y1), (0, .long x0), (2, .ref a_p2), (3, .int x3)]) hx hb dX7_listNumbers_35 hl (k := 3) rfl (by rw [ey1]; rfl) (by decide) rfl (fun ls hl => ?_)
        refine lv_goto (tgt := 5) hx hb dX7_listNumbers_38 (by decide) ?_
        cases hf
        exact ((congrFun eF5 _).mp hF) H locs ls hP hD hS (lv_sub hl [1, 2, 3, 0] rfl)
      rw [eF5]
      obtain ⟨x3, x4, g_p2⟩ := q
      intro H locs ls hP hD hS hl
      have hP : va_P D vwCl [(a_p2, .inl (cI, n_p2, .inl g_p2))] H := hP
      have hD : va_D A [(a_p2, .inl (cI, n_p2, .inl g_p2))] := hD
      have hl : lv_has ls 5 [(0, .long x0), (2, .ref a_p2), (3, .int x3), (4, .int x4)] := hl
      have hf : bX7_listNumbers_5 n_p2 x0 x3 x4 g_p2 = some t := hf
      unfold bX7_listNumbers_5 at hf
      refine lv_iload hx hb dX7_listNumbers_5 (lv_at hl 3 rfl) ?_
      refine lv_bipush (v := 40) hx hb dX7_listNumbers_7 (by decide) ?_
      refine lv_icmp_gt (tgt := 41) hx hb dX7_listNumbers_9 (by decide) (fun c2 => ?_) (fun c2 => ?_)
      · have hf := br_pos c2 hf
        refine lv_iload_n hx hb dX7_listNumbers_41 rfl (lv_at hl 2 rfl) ?_
        cases hf
        have hE : (x3, g_p2) = (r0, v_p2) := hF
        simp only [Prod.mk.injEq] at hE
        obtain ⟨rfl, rfl⟩ := hE
        exact rtI hx hb hr hlk hP hD hS dX7_listNumbers_42
      · have hf := br_neg c2 hf
        refine lv_iload_n hx hb dX7_listNumbers_12 rfl (lv_at hl 2 rfl) ?_
        refine lv_aload_n hx hb dX7_listNumbers_13 rfl (lv_at hl 1 rfl) ?_
        refine va_alen (v := Int32.ofNat n_p2) hx hb hN.1 hP 0 0 rfl rfl rfl dX7_listNumbers_14 ?_
        refine lv_icmp_ge (tgt := 41) hx hb dX7_listNumbers_15 (by decide) (fun c3 => ?_) (fun c3 => ?_)
        · have hf := br_pos c3 hf
          refine lv_iload_n hx hb dX7_listNumbers_41 rfl (lv_at hl 2 rfl) ?_
          cases hf
          have hE : (x3, g_p2) = (r0, v_p2) := hF
          simp only [Prod.mk.injEq] at hE
          obtain ⟨rfl, rfl⟩ := hE
          exact rtI hx hb hr hlk hP hD hS dX7_listNumbers_42
        · have hf := br_neg c3 hf
          refine lv_lload_n hx hb dX7_listNumbers_18 rfl (lv_at hl 0 rfl) ?_
          refine lv_iload hx hb dX7_listNumbers_19 (lv_at hl 3 rfl) ?_
          obtain ⟨u4, hu4, hf⟩ := bd_some hf
          refine caSI (rest := []) (As := [.long x0, .int x4]) (wr := [(a_p2, .inl (cI, n_p2, .inl g_p2))]) (wo := [(a_p2, .inl (cI, n_p2, .inl g_p2))]) ⟨hx, hb, hml, hown, hts⟩ hN hP hD hS hA (cX7_has_ct l D cI cL cC cZ x0 x4 u4 hu4) z1 [] [0] [0] rfl (by decide) rfl (by decide) (by decide) rfl (by decide) rfl hl.1 rfl (Nat.le_of_ble_eq_true rfl) dX7_listNumbers_21 ⟨Nat.zero_le _, Nat.zero_le _⟩ (fun H locs hP hD hS => ?_)
          refine lv_if_eq (tgt := 35) hx hb dX7_listNumbers_24 (by decide) (fun c5 => ?_) (fun c5 => ?_)
          · have hf := br_pos c5 hf
            exact w35 x3 x4 g_p2 _ H locs ls hf hF hP hD hS (lv_sub hl [0, 1, 2, 3] rfl)
          · have hf := br_neg c5 hf
            refine lv_aload_n hx hb dX7_listNumbers_27 rfl (lv_at hl 1 rfl) ?_
            refine lv_iload_n hx hb dX7_listNumbers_28 rfl (lv_at hl 2 rfl) ?_
            obtain ⟨y6, ey6⟩ : ∃ z : Int32, z = x3 + (1 : Int32) := ⟨_, rfl⟩
            have hf := lt_some hf y6 ey6
            refine lv_iinc (v := y6) (lv' := [(3, .int y6), (0, .long x0), (2, .ref a_p2), (4, .int x4)]) hx hb dX7_listNumbers_29 hl (k := 2) rfl (by rw [ey6]; rfl) (by decide) rfl (fun ls hl => ?_)
            refine lv_iload hx hb dX7_listNumbers_32 (lv_at hl 3 rfl) ?_
            obtain ⟨c7, hf⟩ := gd_some hf
            refine va_iast hx hb hN.1 hP hD hS 0 0 rfl rfl (ix_in c7) dX7_listNumbers_34 (fun H locs hP hD hS => ?_)
            obtain ⟨y8, ey8⟩ : ∃ z, z = upd g_p2 x3.toNatClampNeg x4 := ⟨_, rfl⟩
            have hf := lt_some hf y8 ey8
            have hP : va_P D vwCl [(a_p2, .inl (cI, n_p2, .inl y8))] H := by rw [ey8]; exact hP
            have hD : va_D A [(a_p2, .inl (cI, n_p2, .inl y8))] := by rw [ey8]; exact hD
            exact w35 y6 x4 y8 _ H locs ls hf hF hP hD hS (lv_sub hl [1, 2, 0, 3] rfl)
    intro x3 x4 g_p2 t H locs ls hf hF hP hD hS hl
    exact ((congrFun eF5 _).mp (key ((x3, x4, g_p2)) t hf hF)) H locs ls hP hD hS hl
  unfold fX7_listNumbers at hf
  obtain ⟨H, eH⟩ : ∃ z, z = s.heap := ⟨_, rfl⟩
  obtain ⟨locs, eL⟩ : ∃ z : List Loc, z = [] := ⟨_, rfl⟩
  have hP : va_P D vwCl [(a_p2, .inl (cI, n_p2, .inl g_p2))] H := by rw [eH]; exact hP
  have hS : va_S A s.heap H locs := by rw [eH, eL]; exact hS
  suffices hG : W p l e rmX7_listNumbers s m ([.long q0, .ref a_p2] : List Value).toArray below meth c H locs 0 0 (MQ below (cQi D r0 A [(a_p2, .inl (cI, n_p2, .inl v_p2))]) ([.long q0, .ref a_p2] : List Value).toArray s 0 0 A) (F0 m 0 ls []) by rw [eH, eL] at hG; exact hG
  refine lv_iconst (v := 0) hx hb dX7_listNumbers_0 (by decide) ?_
  refine lv_istore_n (lv' := [(3, .int (0 : Int32)), (0, .long q0), (2, .ref a_p2)]) hx hb dX7_listNumbers_1 rfl hl (by decide) rfl (fun ls hl => ?_)
  refine lv_iconst (v := 0) hx hb dX7_listNumbers_2 (by decide) ?_
  refine lv_istore (lv' := [(4, .int (0 : Int32)), (3, .int (0 : Int32)), (0, .long q0), (2, .ref a_p2)]) hx hb dX7_listNumbers_3 hl (by decide) rfl (fun ls hl => ?_)
  exact w5 q0 (0 : Int32) (0 : Int32) g_p2 (r0, v_p2) H locs ls hf rfl hP hD hS (lv_sub hl [2, 3, 1, 0] rfl)
abbrev rmX2_join : Room := { frames := 0, cells := 0, slots := 0, locals := 0 }
noncomputable def bX2_join_107 (x1 : Int32) (x2 : Int32) (x3 : Int32) (x4 : Int32) (x5 : Int32) (g_taken : Int32) (g_first : Nat → Int32) (g_second : Nat → Int32) (g_chosen : Nat → Int32) (g_there : Nat → Int32) (g_back : Nat → Int32) (g_uses : Nat → Int32) (g_partnerUses : Nat → Int32) : Option ((Int32 × (Nat → Int32) × (Nat → Int32) × (Nat → Int32) × (Nat → Int32)) ⊕ (Int32 × Int32 × (Nat → Int32) × (Nat → Int32) × (Nat → Int32) × (Nat → Int32) × (Nat → Int32))) := gd (¬ x4 < 0 ∧ x4.toNatClampNeg < 81) (lt_ (upd g_there x4.toNatClampNeg x5) (fun y2 => gd (¬ x5 < 0 ∧ x5.toNatClampNeg < 81) (lt_ (upd g_back x5.toNatClampNeg x4) (fun y4 => gd (¬ x4 < 0 ∧ x4.toNatClampNeg < 81) (lt_ ((g_uses x4.toNatClampNeg) + (1 : Int32)) (fun y6 => gd (¬ x4 < 0 ∧ x4.toNatClampNeg < 81) (lt_ (upd g_uses x4.toNatClampNeg y6) (fun y8 => gd (¬ x5 < 0 ∧ x5.toNatClampNeg < 81) (lt_ ((g_partnerUses x5.toNatClampNeg) + (1 : Int32)) (fun y10 => gd (¬ x5 < 0 ∧ x5.toNatClampNeg < 81) (lt_ (upd g_partnerUses x5.toNatClampNeg y10) (fun y12 => lt_ (x3 + (1 : Int32)) (fun y13 => some (Sum.inl ((y13, y2, y4, y8, y12))))))))))))))))
noncomputable def bX2_join_83 (x1 : Int32) (x2 : Int32) (x3 : Int32) (x4 : Int32) (x5 : Int32) (g_taken : Int32) (g_first : Nat → Int32) (g_second : Nat → Int32) (g_chosen : Nat → Int32) (g_there : Nat → Int32) (g_back : Nat → Int32) (g_uses : Nat → Int32) (g_partnerUses : Nat → Int32) : Option ((Int32 × (Nat → Int32) × (Nat → Int32) × (Nat → Int32) × (Nat → Int32)) ⊕ (Int32 × Int32 × (Nat → Int32) × (Nat → Int32) × (Nat → Int32) × (Nat → Int32) × (Nat → Int32))) := gd (¬ x5 < 0 ∧ x5.toNatClampNeg < 81) (br ((g_partnerUses x5.toNatClampNeg) ≤ 0) (bX2_join_107 x1 x2 x3 x4 x5 g_taken g_first g_second g_chosen g_there g_back g_uses g_partnerUses) (gd (¬ x5 < 0 ∧ x5.toNatClampNeg < 81) (br ((g_back x5.toNatClampNeg) = x4) (bX2_join_107 x1 x2 x3 x4 x5 g_taken g_first g_second g_chosen g_there g_back g_uses g_partnerUses) (some (Sum.inr ((x3, g_taken, g_chosen, g_there, g_back, g_uses, g_partnerUses)))))))
noncomputable def bX2_join_21 (x1 : Int32) (x2 : Int32) (g_taken : Int32) (g_first : Nat → Int32) (g_second : Nat → Int32) (g_chosen : Nat → Int32) (x3 : Int32) (g_there : Nat → Int32) (g_back : Nat → Int32) (g_uses : Nat → Int32) (g_partnerUses : Nat → Int32) : Option ((Int32 × (Nat → Int32) × (Nat → Int32) × (Nat → Int32) × (Nat → Int32)) ⊕ (Int32 × Int32 × (Nat → Int32) × (Nat → Int32) × (Nat → Int32) × (Nat → Int32) × (Nat → Int32))) := br (x1 < x3) (some (Sum.inr ((x1 + (1 : Int32), g_taken, g_chosen, g_there, g_back, g_uses, g_partnerUses)))) (gd (¬ x1 < 0 ∧ x1.toNatClampNeg < 7) (gd (¬ x3 < 0 ∧ x3.toNatClampNeg < 7) (lt_ ((g_first x1.toNatClampNeg) + (g_first x3.toNatClampNeg)) (fun y21 => gd (¬ x2 < 0 ∧ x2.toNatClampNeg < 7) (gd (¬ x3 < 0 ∧ x3.toNatClampNeg < 7) (gd (¬ (g_chosen x3.toNatClampNeg) < 0 ∧ (g_chosen x3.toNatClampNeg).toNatClampNeg < 7) (lt_ ((g_second x2.toNatClampNeg) + (g_second (g_chosen x3.toNatClampNeg).toNatClampNeg)) (fun y25 => gd (¬ y21 < 0 ∧ y21.toNatClampNeg < 81) (br ((g_uses y21.toNatClampNeg) ≤ 0) (bX2_join_83 x1 x2 x3 y21 y25 g_taken g_first g_second g_chosen g_there g_back g_uses g_partnerUses) (gd (¬ y21 < 0 ∧ y21.toNatClampNeg < 81) (br ((g_there y21.toNatClampNeg) = y25) (bX2_join_83 x1 x2 x3 y21 y25 g_taken g_first g_second g_chosen g_there g_back g_uses g_partnerUses) (some (Sum.inr ((x3, g_taken, g_chosen, g_there, g_back, g_uses, g_partnerUses)))))))))))))))
noncomputable def sX2_join_21 (x1 : Int32) (x2 : Int32) (g_taken : Int32) (g_first : Nat → Int32) (g_second : Nat → Int32) (g_chosen : Nat → Int32) : (Int32 × (Nat → Int32) × (Nat → Int32) × (Nat → Int32) × (Nat → Int32)) → Option ((Int32 × (Nat → Int32) × (Nat → Int32) × (Nat → Int32) × (Nat → Int32)) ⊕ (Int32 × Int32 × (Nat → Int32) × (Nat → Int32) × (Nat → Int32) × (Nat → Int32) × (Nat → Int32))) := fun q => bX2_join_21 x1 x2 g_taken g_first g_second g_chosen q.1 q.2.1 q.2.2.1 q.2.2.2.1 q.2.2.2.2
noncomputable def fX2_join (q1 : Int32) (q2 : Int32) (g_taken : Int32) (g_first : Nat → Int32) (g_second : Nat → Int32) (g_chosen : Nat → Int32) (g_there : Nat → Int32) (g_back : Nat → Int32) (g_uses : Nat → Int32) (g_partnerUses : Nat → Int32) : Option (Int32 × Int32 × (Nat → Int32) × (Nat → Int32) × (Nat → Int32) × (Nat → Int32) × (Nat → Int32)) := gd (¬ q1 < 0 ∧ q1.toNatClampNeg < 7) (lt_ (upd g_chosen q1.toNatClampNeg q2) (fun y31 => lt_ (g_taken ||| ((1 : Int32) <<< (q2 &&& 31))) (fun y32 => run (sX2_join_21 q1 q2 y32 g_first g_second y31) (((0 : Int32), g_there, g_back, g_uses, g_partnerUses)))))
set_option maxHeartbeats 4000000 in
set_option maxRecDepth 100000 in
theorem cX2_join_ct (l : Launch) (D : va_G) (cI cL cC cZ : ClassId) (a_this a_first a_second a_chosen a_there a_back a_uses a_partnerUses : Nat) (g_firstSet : Int64) (g_secondSet : Int64) (g_size : Int32) (g_taken : Int32) (g_paired : Int32) (g_first : Nat → Int32) (g_second : Nat → Int32) (g_chosen : Nat → Int32) (g_there : Nat → Int32) (g_back : Nat → Int32) (g_uses : Nat → Int32) (g_partnerUses : Nat → Int32) (q1 : Int32) (q2 : Int32) (r0 : Int32) (v_taken : Int32) (v_chosen : Nat → Int32) (v_there : Nat → Int32) (v_back : Nat → Int32) (v_uses : Nat → Int32) (v_partnerUses : Nat → Int32) (hf : fX2_join q1 q2 g_taken g_first g_second g_chosen g_there g_back g_uses g_partnerUses = some ((r0, v_taken, v_chosen, v_there, v_back, v_uses, v_partnerUses))) : CtI l yX2_join wsX2_join rmX2_join D (tyz cI cL cC cZ) [.ref a_this, .int q1, .int q2] [(a_this, .inr (2, [.ref a_first, .ref a_second, .ref a_chosen, .ref a_there, .ref a_back, .ref a_uses, .ref a_partnerUses, .long g_firstSet, .long g_secondSet, .int g_size, .int g_taken, .int g_paired])), (a_first, .inl (cI, 7, .inl g_first)), (a_second, .inl (cI, 7, .inl g_second)), (a_chosen, .inl (cI, 7, .inl g_chosen)), (a_there, .inl (cI, 81, .inl g_there)), (a_back, .inl (cI, 81, .inl g_back)), (a_uses, .inl (cI, 81, .inl g_uses)), (a_partnerUses, .inl (cI, 81, .inl g_partnerUses))] [(a_this, .inr (2, [.ref a_first, .ref a_second, .ref a_chosen, .ref a_there, .ref a_back, .ref a_uses, .ref a_partnerUses, .long g_firstSet, .long g_secondSet, .int g_size, .int v_taken, .int g_paired])), (a_first, .inl (cI, 7, .inl g_first)), (a_second, .inl (cI, 7, .inl g_second)), (a_chosen, .inl (cI, 7, .inl v_chosen)), (a_there, .inl (cI, 81, .inl v_there)), (a_back, .inl (cI, 81, .inl v_back)), (a_uses, .inl (cI, 81, .inl v_uses)), (a_partnerUses, .inl (cI, 81, .inl v_partnerUses))] r0 := by
  refine CtI.make (cc := cX2_join) (maxL := 6) (ty := .int) (by decide) rfl (Nat.le_of_ble_eq_true rfl) ?_
  intro p e s m below meth c A ls C0 hN hA hP hD hl
  obtain ⟨hx, hb, hr, hml, hown, hts, hlk⟩ := id C0
  have hown : s.vm.findClass RX2 = some m.cls := hown
  have hS : va_S A s.heap s.heap [] := va_S.rf
  have hP : va_P D vwCl [(a_this, .inr (2, [.ref a_first, .ref a_second, .ref a_chosen, .ref a_there, .ref a_back, .ref a_uses, .ref a_partnerUses, .long g_firstSet, .long g_secondSet, .int g_size, .int g_taken, .int g_paired])), (a_first, .inl (cI, 7, .inl g_first)), (a_second, .inl (cI, 7, .inl g_second)), (a_chosen, .inl (cI, 7, .inl g_chosen)), (a_there, .inl (cI, 81, .inl g_there)), (a_back, .inl (cI, 81, .inl g_back)), (a_uses, .inl (cI, 81, .inl g_uses)), (a_partnerUses, .inl (cI, 81, .inl g_partnerUses))] s.heap := hP
  have hD : va_D A [(a_this, .inr (2, [.ref a_first, .ref a_second, .ref a_chosen, .ref a_there, .ref a_back, .ref a_uses, .ref a_partnerUses, .long g_firstSet, .long g_secondSet, .int g_size, .int g_taken, .int g_paired])), (a_first, .inl (cI, 7, .inl g_first)), (a_second, .inl (cI, 7, .inl g_second)), (a_chosen, .inl (cI, 7, .inl g_chosen)), (a_there, .inl (cI, 81, .inl g_there)), (a_back, .inl (cI, 81, .inl g_back)), (a_uses, .inl (cI, 81, .inl g_uses)), (a_partnerUses, .inl (cI, 81, .inl g_partnerUses))] := hD
  have hl : lv_has ls 6 [(0, .ref a_this), (1, .int q1), (2, .int q2)] := hl
  have z1 : ∀ w ∈ u_ws RX2 TX2 12, w ∈ wsX2_join := by decide +kernel
  have z2 := hts (.fieldLink RX2 21 "LittleSums$PairingSearch" "there" "[I") (by decide +kernel)
  have z3 := hts (.fieldLink RX2 24 "LittleSums$PairingSearch" "back" "[I") (by decide +kernel)
  have z4 := hts (.fieldLink RX2 27 "LittleSums$PairingSearch" "uses" "[I") (by decide +kernel)
  have z5 := hts (.fieldLink RX2 30 "LittleSums$PairingSearch" "partnerUses" "[I") (by decide +kernel)
  have z6 := hts (.fieldLink RX2 9 "LittleSums$PairingSearch" "first" "[I") (by decide +kernel)
  have z7 := hts (.fieldLink RX2 15 "LittleSums$PairingSearch" "second" "[I") (by decide +kernel)
  have z8 := hts (.fieldLink RX2 18 "LittleSums$PairingSearch" "chosen" "[I") (by decide +kernel)
  have z9 := hts (.fieldLink RX2 54 "LittleSums$PairingSearch" "taken" "I") (by decide +kernel)
  have w21 : ∀ (x1 : Int32) (x2 : Int32) (g_taken : Int32) (g_first : Nat → Int32) (g_second : Nat → Int32) (g_chosen : Nat → Int32) (x3 : Int32) (g_there : Nat → Int32) (g_back : Nat → Int32) (g_uses : Nat → Int32) (g_partnerUses : Nat → Int32) (t : Int32 × Int32 × (Nat → Int32) × (Nat → Int32) × (Nat → Int32) × (Nat → Int32) × (Nat → Int32)) (H : Heap) (locs : List Loc) (ls : Array Slot), run (sX2_join_21 x1 x2 g_taken g_first g_second g_chosen) ((x3, g_there, g_back, g_uses, g_partnerUses)) = some t → (fun z => z = (r0, v_taken, v_chosen, v_there, v_back, v_uses, v_partnerUses)) t → va_P D vwCl [(a_this, .inr (2, [.ref a_first, .ref a_second, .ref a_chosen, .ref a_there, .ref a_back, .ref a_uses, .ref a_partnerUses, .long g_firstSet, .long g_secondSet, .int g_size, .int g_taken, .int g_paired])), (a_first, .inl (cI, 7, .inl g_first)), (a_second, .inl (cI, 7, .inl g_second)), (a_chosen, .inl (cI, 7, .inl g_chosen)), (a_there, .inl (cI, 81, .inl g_there)), (a_back, .inl (cI, 81, .inl g_back)), (a_uses, .inl (cI, 81, .inl g_uses)), (a_partnerUses, .inl (cI, 81, .inl g_partnerUses))] H → va_D A [(a_this, .inr (2, [.ref a_first, .ref a_second, .ref a_chosen, .ref a_there, .ref a_back, .ref a_uses, .ref a_partnerUses, .long g_firstSet, .long g_secondSet, .int g_size, .int g_taken, .int g_paired])), (a_first, .inl (cI, 7, .inl g_first)), (a_second, .inl (cI, 7, .inl g_second)), (a_chosen, .inl (cI, 7, .inl g_chosen)), (a_there, .inl (cI, 81, .inl g_there)), (a_back, .inl (cI, 81, .inl g_back)), (a_uses, .inl (cI, 81, .inl g_uses)), (a_partnerUses, .inl (cI, 81, .inl g_partnerUses))] → va_S A s.heap H locs → lv_has ls 6 [(0, .ref a_this), (1, .int x1), (2, .int x2), (3, .int x3)] → W p l e rmX2_join s m ([.ref a_this, .int q1, .int q2] : List Value).toArray below meth c H locs 0 0 (MQ below (cQi D r0 A [(a_this, .inr (2, [.ref a_first, .ref a_second, .ref a_chosen, .ref a_there, .ref a_back, .ref a_uses, .ref a_partnerUses, .long g_firstSet, .long g_secondSet, .int g_size, .int v_taken, .int g_paired])), (a_first, .inl (cI, 7, .inl g_first)), (a_second, .inl (cI, 7, .inl g_second)), (a_chosen, .inl (cI, 7, .inl v_chosen)), (a_there, .inl (cI, 81, .inl v_there)), (a_back, .inl (cI, 81, .inl v_back)), (a_uses, .inl (cI, 81, .inl v_uses)), (a_partnerUses, .inl (cI, 81, .inl v_partnerUses))]) ([.ref a_this, .int q1, .int q2] : List Value).toArray s 0 0 A) (F0 m 21 ls []) := by
    intro x1 x2 g_taken g_first g_second g_chosen
    obtain ⟨F21, eF21⟩ : ∃ F : (Int32 × (Nat → Int32) × (Nat → Int32) × (Nat → Int32) × (Nat → Int32)) → Prop, F = fun q => ∀ (H : Heap) (locs : List Loc) (ls : Array Slot), va_P D vwCl [(a_this, .inr (2, [.ref a_first, .ref a_second, .ref a_chosen, .ref a_there, .ref a_back, .ref a_uses, .ref a_partnerUses, .long g_firstSet, .long g_secondSet, .int g_size, .int g_taken, .int g_paired])), (a_first, .inl (cI, 7, .inl g_first)), (a_second, .inl (cI, 7, .inl g_second)), (a_chosen, .inl (cI, 7, .inl g_chosen)), (a_there, .inl (cI, 81, .inl q.2.1)), (a_back, .inl (cI, 81, .inl q.2.2.1)), (a_uses, .inl (cI, 81, .inl q.2.2.2.1)), (a_partnerUses, .inl (cI, 81, .inl q.2.2.2.2))] H → va_D A [(a_this, .inr (2, [.ref a_first, .ref a_second, .ref a_chosen, .ref a_there, .ref a_back, .ref a_uses, .ref a_partnerUses, .long g_firstSet, .long g_secondSet, .int g_size, .int g_taken, .int g_paired])), (a_first, .inl (cI, 7, .inl g_first)), (a_second, .inl (cI, 7, .inl g_second)), (a_chosen, .inl (cI, 7, .inl g_chosen)), (a_there, .inl (cI, 81, .inl q.2.1)), (a_back, .inl (cI, 81, .inl q.2.2.1)), (a_uses, .inl (cI, 81, .inl q.2.2.2.1)), (a_partnerUses, .inl (cI, 81, .inl q.2.2.2.2))] → va_S A s.heap H locs → lv_has ls 6 [(0, .ref a_this), (1, .int x1), (2, .int x2), (3, .int q.1)] → W p l e rmX2_join s m ([.ref a_this, .int q1, .int q2] : List Value).toArray below meth c H locs 0 0 (MQ below (cQi D r0 A [(a_this, .inr (2, [.ref a_first, .ref a_second, .ref a_chosen, .ref a_there, .ref a_back, .ref a_uses, .ref a_partnerUses, .long g_firstSet, .long g_secondSet, .int g_size, .int v_taken, .int g_paired])), (a_first, .inl (cI, 7, .inl g_first)), (a_second, .inl (cI, 7, .inl g_second)), (a_chosen, .inl (cI, 7, .inl v_chosen)), (a_there, .inl (cI, 81, .inl v_there)), (a_back, .inl (cI, 81, .inl v_back)), (a_uses, .inl (cI, 81, .inl v_uses)), (a_partnerUses, .inl (cI, 81, .inl v_partnerUses))]) ([.ref a_this, .int q1, .int q2] : List Value).toArray s 0 0 A) (F0 m 21 ls []) := ⟨_, rfl⟩
    have key : ∀ (q : Int32 × (Nat → Int32) × (Nat → Int32) × (Nat → Int32) × (Nat → Int32)) (t : Int32 × Int32 × (Nat → Int32) × (Nat → Int32) × (Nat → Int32) × (Nat → Int32) × (Nat → Int32)), run (sX2_join_21 x1 x2 g_taken g_first g_second g_chosen) q = some t → (fun z => z = (r0, v_taken, v_chosen, v_there, v_back, v_uses, v_partnerUses)) t → F21 q := by
      refine loop_rule (sX2_join_21 x1 x2 g_taken g_first g_second g_chosen) F21 (fun z => z = (r0, v_taken, v_chosen, v_there, v_back, v_uses, v_partnerUses)) ?_
      intro q t hf hF
      have hF : (Sum.elim F21 (fun z => z = (r0, v_taken, v_chosen, v_there, v_back, v_uses, v_partnerUses))) t := hF
      have w107 : ∀ (x3 : Int32) (x4 : Int32) (x5 : Int32) (g_there : Nat → Int32) (g_back : Nat → Int32) (g_uses : Nat → Int32) (g_partnerUses : Nat → Int32) (t : (Int32 × (Nat → Int32) × (Nat → Int32) × (Nat → Int32) × (Nat → Int32)) ⊕ (Int32 × Int32 × (Nat → Int32) × (Nat → Int32) × (Nat → Int32) × (Nat → Int32) × (Nat → Int32))) (H : Heap) (locs : List Loc) (ls : Array Slot), bX2_join_107 x1 x2 x3 x4 x5 g_taken g_first g_second g_chosen g_there g_back g_uses g_partnerUses = some t → (Sum.elim F21 (fun z => z = (r0, v_taken, v_chosen, v_there, v_back, v_uses, v_partnerUses))) t → va_P D vwCl [(a_this, .inr (2, [.ref a_first, .ref a_second, .ref a_chosen, .ref a_there, .ref a_back, .ref a_uses, .ref a_partnerUses, .long g_firstSet, .long g_secondSet, .int g_size, .int g_taken, .int g_paired])), (a_first, .inl (cI, 7, .inl g_first)), (a_second, .inl (cI, 7, .inl g_second)), (a_chosen, .inl (cI, 7, .inl g_chosen)), (a_there, .inl (cI, 81, .inl g_there)), (a_back, .inl (cI, 81, .inl g_back)), (a_uses, .inl (cI, 81, .inl g_uses)), (a_partnerUses, .inl (cI, 81, .inl g_partnerUses))] H → va_D A [(a_this, .inr (2, [.ref a_first, .ref a_second, .ref a_chosen, .ref a_there, .ref a_back, .ref a_uses, .ref a_partnerUses, .long g_firstSet, .long g_secondSet, .int g_size, .int g_taken, .int g_paired])), (a_first, .inl (cI, 7, .inl g_first)), (a_second, .inl (cI, 7, .inl g_second)), (a_chosen, .inl (cI, 7, .inl g_chosen)), (a_there, .inl (cI, 81, .inl g_there)), (a_back, .inl (cI, 81, .inl g_back)), (a_uses, .inl (cI, 81, .inl g_uses)), (a_partnerUses, .inl (cI, 81, .inl g_partnerUses))] → va_S A s.heap H locs → lv_has ls 6 [(0, .ref a_this), (1, .int x1), (2, .int x2), (3, .int x3), (4, .int x4), (5, .int x5)] → W p l e rmX2_join s m ([.ref a_this, .int q1, .int q2] : List Value).toArray below meth c H locs 0 0 (MQ below (cQi D r0 A [(a_this, .inr (2, [.ref a_first, .ref a_second, .ref a_chosen, .ref a_there, .ref a_back, .ref a_uses, .ref a_partnerUses, .long g_firstSet, .long g_secondSet, .int g_size, .int v_taken, .int g_paired])), (a_first, .inl (cI, 7, .inl g_first)), (a_second, .inl (cI, 7, .inl g_second)), (a_chosen, .inl (cI, 7, .inl v_chosen)), (a_there, .inl (cI, 81, .inl v_there)), (a_back, .inl (cI, 81, .inl v_back)), (a_uses, .inl (cI, 81, .inl v_uses)), (a_partnerUses, .inl (cI, 81, .inl v_partnerUses))]) ([.ref a_this, .int q1, .int q2] : List Value).toArray s 0 0 A) (F0 m 107 ls []) := by
        intro x3 x4 x5 g_there g_back g_uses g_partnerUses t H locs ls hf hF hP hD hS hl
        unfold bX2_join_107 at hf
        refine lv_aload_n hx hb dX2_join_107 rfl (lv_at hl 0 rfl) ?_
        refine va_get (D := D) (ci := 2) (v := .ref a_there) (C := RX2) (T := TX2) (N := 12) hx hb hts z1 hown hN.1 hP 0 rfl rfl 3 (by decide) z2 (fun _ h9 => h9) rfl dX2_join_108 ?_
        refine lv_iload hx hb dX2_join_111 (lv_at hl 4 rfl) ?_
        refine lv_iload hx hb dX2_join_113 (lv_at hl 5 rfl) ?_
        obtain ⟨c1, hf⟩ := gd_some hf
        refine va_iast hx hb hN.1 hP hD hS 4 0 rfl rfl (ix_in c1) dX2_join_115 (fun H locs hP hD hS => ?_)
        obtain ⟨y2, ey2⟩ : ∃ z, z = upd g_there x4.toNatClampNeg x5 := ⟨_, rfl⟩
        have hf := lt_some hf y2 ey2
        have hP : va_P D vwCl [(a_this, .inr (2, [.ref a_first, .ref a_second, .ref a_chosen, .ref a_there, .ref a_back, .ref a_uses, .ref a_partnerUses, .long g_firstSet, .long g_secondSet, .int g_size, .int g_taken, .int g_paired])), (a_first, .inl (cI, 7, .inl g_first)), (a_second, .inl (cI, 7, .inl g_second)), (a_chosen, .inl (cI, 7, .inl g_chosen)), (a_there, .inl (cI, 81, .inl y2)), (a_back, .inl (cI, 81, .inl g_back)), (a_uses, .inl (cI, 81, .inl g_uses)), (a_partnerUses, .inl (cI, 81, .inl g_partnerUses))] H := by rw [ey2]; exact hP
        have hD : va_D A [(a_this, .inr (2, [.ref a_first, .ref a_second, .ref a_chosen, .ref a_there, .ref a_back, .ref a_uses, .ref a_partnerUses, .long g_firstSet, .long g_secondSet, .int g_size, .int g_taken, .int g_paired])), (a_first, .inl (cI, 7, .inl g_first)), (a_second, .inl (cI, 7, .inl g_second)), (a_chosen, .inl (cI, 7, .inl g_chosen)), (a_there, .inl (cI, 81, .inl y2)), (a_back, .inl (cI, 81, .inl g_back)), (a_uses, .inl (cI, 81, .inl g_uses)), (a_partnerUses, .inl (cI, 81, .inl g_partnerUses))] := by rw [ey2]; exact hD
        refine lv_aload_n hx hb dX2_join_116 rfl (lv_at hl 0 rfl) ?_
        refine va_get (D := D) (ci := 2) (v := .ref a_back) (C := RX2) (T := TX2) (N := 12) hx hb hts z1 hown hN.1 hP 0 rfl rfl 4 (by decide) z3 (fun _ h9 => h9) rfl dX2_join_117 ?_
        refine lv_iload hx hb dX2_join_120 (lv_at hl 5 rfl) ?_
        refine lv_iload hx hb dX2_join_122 (lv_at hl 4 rfl) ?_
        obtain ⟨c3, hf⟩ := gd_some hf
        refine va_iast hx hb hN.1 hP hD hS 5 0 rfl rfl (ix_in c3) dX2_join_124 (fun H locs hP hD hS => ?_)
        obtain ⟨y4, ey4⟩ : ∃ z, z = upd g_back x5.toNatClampNeg x4 := ⟨_, rfl⟩
        have hf := lt_some hf y4 ey4
        have hP : va_P D vwCl [(a_this, .inr (2, [.ref a_first, .ref a_second, .ref a_chosen, .ref a_there, .ref a_back, .ref a_uses, .ref a_partnerUses, .long g_firstSet, .long g_secondSet, .int g_size, .int g_taken, .int g_paired])), (a_first, .inl (cI, 7, .inl g_first)), (a_second, .inl (cI, 7, .inl g_second)), (a_chosen, .inl (cI, 7, .inl g_chosen)), (a_there, .inl (cI, 81, .inl y2)), (a_back, .inl (cI, 81, .inl y4)), (a_uses, .inl (cI, 81, .inl g_uses)), (a_partnerUses, .inl (cI, 81, .inl g_partnerUses))] H := by rw [ey4]; exact hP
        have hD : va_D A [(a_this, .inr (2, [.ref a_first, .ref a_second, .ref a_chosen, .ref a_there, .ref a_back, .ref a_uses, .ref a_partnerUses, .long g_firstSet, .long g_secondSet, .int g_size, .int g_taken, .int g_paired])), (a_first, .inl (cI, 7, .inl g_first)), (a_second, .inl (cI, 7, .inl g_second)), (a_chosen, .inl (cI, 7, .inl g_chosen)), (a_there, .inl (cI, 81, .inl y2)), (a_back, .inl (cI, 81, .inl y4)), (a_uses, .inl (cI, 81, .inl g_uses)), (a_partnerUses, .inl (cI, 81, .inl g_partnerUses))] := by rw [ey4]; exact hD
        refine lv_aload_n hx hb dX2_join_125 rfl (lv_at hl 0 rfl) ?_
        refine va_get (D := D) (ci := 2) (v := .ref a_uses) (C := RX2) (T := TX2) (N := 12) hx hb hts z1 hown hN.1 hP 0 rfl rfl 5 (by decide) z4 (fun _ h9 => h9) rfl dX2_join_126 ?_
        refine lv_iload hx hb dX2_join_129 (lv_at hl 4 rfl) ?_
        refine lv_dup2_11 hx hb dX2_join_131 rfl rfl ?_
        obtain ⟨c5, hf⟩ := gd_some hf
        refine va_iald hx hb hN.1 hP 6 0 rfl rfl (ix_in c5) dX2_join_132 ?_
        refine lv_iconst (v := 1) hx hb dX2_join_133 (by decide) ?_
        refine lv_iadd hx hb dX2_join_134 ?_
        refine lv_topi (fun y6 ey6 => ?_)
        have hf := lt_some hf y6 ey6
        obtain ⟨c7, hf⟩ := gd_some hf
        refine va_iast hx hb hN.1 hP hD hS 6 0 rfl rfl (ix_in c7) dX2_join_135 (fun H locs hP hD hS => ?_)
        obtain ⟨y8, ey8⟩ : ∃ z, z = upd g_uses x4.toNatClampNeg y6 := ⟨_, rfl⟩
        have hf := lt_some hf y8 ey8
        have hP : va_P D vwCl [(a_this, .inr (2, [.ref a_first, .ref a_second, .ref a_chosen, .ref a_there, .ref a_back, .ref a_uses, .ref a_partnerUses, .long g_firstSet, .long g_secondSet, .int g_size, .int g_taken, .int g_paired])), (a_first, .inl (cI, 7, .inl g_first)), (a_second, .inl (cI, 7, .inl g_second)), (a_chosen, .inl (cI, 7, .inl g_chosen)), (a_there, .inl (cI, 81, .inl y2)), (a_back, .inl (cI, 81, .inl y4)), (a_uses, .inl (cI, 81, .inl y8)), (a_partnerUses, .inl (cI, 81, .inl g_partnerUses))] H := by rw [ey8]; exact hP
        have hD : va_D A [(a_this, .inr (2, [.ref a_first, .ref a_second, .ref a_chosen, .ref a_there, .ref a_back, .ref a_uses, .ref a_partnerUses, .long g_firstSet, .long g_secondSet, .int g_size, .int g_taken, .int g_paired])), (a_first, .inl (cI, 7, .inl g_first)), (a_second, .inl (cI, 7, .inl g_second)), (a_chosen, .inl (cI, 7, .inl g_chosen)), (a_there, .inl (cI, 81, .inl y2)), (a_back, .inl (cI, 81, .inl y4)), (a_uses, .inl (cI, 81, .inl y8)), (a_partnerUses, .inl (cI, 81, .inl g_partnerUses))] := by rw [ey8]; exact hD
        refine lv_aload_n hx hb dX2_join_136 rfl (lv_at hl 0 rfl) ?_
        refine va_get (D := D) (ci := 2) (v := .ref a_partnerUses) (C := RX2) (T := TX2) (N := 12) hx hb hts z1 hown hN.1 hP 0 rfl rfl 6 (by decide) z5 (fun _ h9 => h9) rfl dX2_join_137 ?_
        refine lv_iload hx hb dX2_join_140 (lv_at hl 5 rfl) ?_
        refine lv_dup2_11 hx hb dX2_join_142 rfl rfl ?_
        obtain ⟨c9, hf⟩ := gd_some hf
        refine va_iald hx hb hN.1 hP 7 0 rfl rfl (ix_in c9) dX2_join_143 ?_
        refine lv_iconst (v := 1) hx hb dX2_join_144 (by decide) ?_
        refine lv_iadd hx hb dX2_join_145 ?_
        refine lv_topi (fun y10 ey10 => ?_)
        have hf := lt_some hf y10 ey10
        obtain ⟨c11, hf⟩ := gd_some hf
        refine va_iast hx hb hN.1 hP hD hS 7 0 rfl rfl (ix_in c11) dX2_join_146 (fun H locs hP hD hS => ?_)
        obtain ⟨y12, ey12⟩ : ∃ z, z = upd g_partnerUses x5.toNatClampNeg y10 := ⟨_, rfl⟩
        have hf := lt_some hf y12 ey12
        have hP : va_P D vwCl [(a_this, .inr (2, [.ref a_first, .ref a_second, .ref a_chosen, .ref a_there, .ref a_back, .ref a_uses, .ref a_partnerUses, .long g_firstSet, .long g_secondSet, .int g_size, .int g_taken, .int g_paired])), (a_first, .inl (cI, 7, .inl g_first)), (a_second, .inl (cI, 7, .inl g_second)), (a_chosen, .inl (cI, 7, .inl g_chosen)), (a_there, .inl (cI, 81, .inl y2)), (a_back, .inl (cI, 81, .inl y4)), (a_uses, .inl (cI, 81, .inl y8)), (a_partnerUses, .inl (cI, 81, .inl y12))] H := by rw [ey12]; exact hP
        have hD : va_D A [(a_this, .inr (2, [.ref a_first, .ref a_second, .ref a_chosen, .ref a_there, .ref a_back, .ref a_uses, .ref a_partnerUses, .long g_firstSet, .long g_secondSet, .int g_size, .int g_taken, .int g_paired])), (a_first, .inl (cI, 7, .inl g_first)), (a_second, .inl (cI, 7, .inl g_second)), (a_chosen, .inl (cI, 7, .inl g_chosen)), (a_there, .inl (cI, 81, .inl y2)), (a_back, .inl (cI, 81, .inl y4)), (a_uses, .inl (cI, 81, .inl y8)), (a_partnerUses, .inl (cI, 81, .inl y12))] := by rw [ey12]; exact hD
        obtain ⟨y13, ey13⟩ : ∃ z : Int32, z = x3 + (1 : Int32) := ⟨_, rfl⟩
        have hf := lt_some hf y13 ey13
        refine lv_iinc (v := y13) (lv' := [(3, .int y13), (0, .ref a_this), (1, .int x1), (2, .int x2), (4, .int x4), (5, .int x5)]) hx hb dX2_join_147 hl (k := 3) rfl (by rw [ey13]; rfl) (by decide) rfl (fun ls hl => ?_)
        refine lv_goto (tgt := 21) hx hb dX2_join_150 (by decide) ?_
        cases hf
        exact ((congrFun eF21 _).mp hF) H locs ls hP hD hS (lv_sub hl [1, 2, 3, 0] rfl)
      have w83 : ∀ (x3 : Int32) (x4 : Int32) (x5 : Int32) (g_there : Nat → Int32) (g_back : Nat → Int32) (g_uses : Nat → Int32) (g_partnerUses : Nat → Int32) (t : (Int32 × (Nat → Int32) × (Nat → Int32) × (Nat → Int32) × (Nat → Int32)) ⊕ (Int32 × Int32 × (Nat → Int32) × (Nat → Int32) × (Nat → Int32) × (Nat → Int32) × (Nat → Int32))) (H : Heap) (locs : List Loc) (ls : Array Slot), bX2_join_83 x1 x2 x3 x4 x5 g_taken g_first g_second g_chosen g_there g_back g_uses g_partnerUses = some t → (Sum.elim F21 (fun z => z = (r0, v_taken, v_chosen, v_there, v_back, v_uses, v_partnerUses))) t → va_P D vwCl [(a_this, .inr (2, [.ref a_first, .ref a_second, .ref a_chosen, .ref a_there, .ref a_back, .ref a_uses, .ref a_partnerUses, .long g_firstSet, .long g_secondSet, .int g_size, .int g_taken, .int g_paired])), (a_first, .inl (cI, 7, .inl g_first)), (a_second, .inl (cI, 7, .inl g_second)), (a_chosen, .inl (cI, 7, .inl g_chosen)), (a_there, .inl (cI, 81, .inl g_there)), (a_back, .inl (cI, 81, .inl g_back)), (a_uses, .inl (cI, 81, .inl g_uses)), (a_partnerUses, .inl (cI, 81, .inl g_partnerUses))] H → va_D A [(a_this, .inr (2, [.ref a_first, .ref a_second, .ref a_chosen, .ref a_there, .ref a_back, .ref a_uses, .ref a_partnerUses, .long g_firstSet, .long g_secondSet, .int g_size, .int g_taken, .int g_paired])), (a_first, .inl (cI, 7, .inl g_first)), (a_second, .inl (cI, 7, .inl g_second)), (a_chosen, .inl (cI, 7, .inl g_chosen)), (a_there, .inl (cI, 81, .inl g_there)), (a_back, .inl (cI, 81, .inl g_back)), (a_uses, .inl (cI, 81, .inl g_uses)), (a_partnerUses, .inl (cI, 81, .inl g_partnerUses))] → va_S A s.heap H locs → lv_has ls 6 [(0, .ref a_this), (1, .int x1), (2, .int x2), (3, .int x3), (4, .int x4), (5, .int x5)] → W p l e rmX2_join s m ([.ref a_this, .int q1, .int q2] : List Value).toArray below meth c H locs 0 0 (MQ below (cQi D r0 A [(a_this, .inr (2, [.ref a_first, .ref a_second, .ref a_chosen, .ref a_there, .ref a_back, .ref a_uses, .ref a_partnerUses, .long g_firstSet, .long g_secondSet, .int g_size, .int v_taken, .int g_paired])), (a_first, .inl (cI, 7, .inl g_first)), (a_second, .inl (cI, 7, .inl g_second)), (a_chosen, .inl (cI, 7, .inl v_chosen)), (a_there, .inl (cI, 81, .inl v_there)), (a_back, .inl (cI, 81, .inl v_back)), (a_uses, .inl (cI, 81, .inl v_uses)), (a_partnerUses, .inl (cI, 81, .inl v_partnerUses))]) ([.ref a_this, .int q1, .int q2] : List Value).toArray s 0 0 A) (F0 m 83 ls []) := by
        intro x3 x4 x5 g_there g_back g_uses g_partnerUses t H locs ls hf hF hP hD hS hl
        unfold bX2_join_83 at hf
        refine lv_aload_n hx hb dX2_join_83 rfl (lv_at hl 0 rfl) ?_
        refine va_get (D := D) (ci := 2) (v := .ref a_partnerUses) (C := RX2) (T := TX2) (N := 12) hx hb hts z1 hown hN.1 hP 0 rfl rfl 6 (by decide) z5 (fun _ h9 => h9) rfl dX2_join_84 ?_
        refine lv_iload hx hb dX2_join_87 (lv_at hl 5 rfl) ?_
        obtain ⟨c14, hf⟩ := gd_some hf
        refine va_iald hx hb hN.1 hP 7 0 rfl rfl (ix_in c14) dX2_join_89 ?_
        refine lv_if_le (tgt := 107) hx hb dX2_join_90 (by decide) (fun c15 => ?_) (fun c15 => ?_)
        · have hf := br_pos c15 hf
          exact w107 x3 x4 x5 g_there g_back g_uses g_partnerUses _ H locs ls hf hF hP hD hS (lv_sub hl [0, 1, 2, 3, 4, 5] rfl)
        · have hf := br_neg c15 hf
          refine lv_aload_n hx hb dX2_join_93 rfl (lv_at hl 0 rfl) ?_
          refine va_get (D := D) (ci := 2) (v := .ref a_back) (C := RX2) (T := TX2) (N := 12) hx hb hts z1 hown hN.1 hP 0 rfl rfl 4 (by decide) z3 (fun _ h9 => h9) rfl dX2_join_94 ?_
          refine lv_iload hx hb dX2_join_97 (lv_at hl 5 rfl) ?_
          obtain ⟨c16, hf⟩ := gd_some hf
          refine va_iald hx hb hN.1 hP 5 0 rfl rfl (ix_in c16) dX2_join_99 ?_
          refine lv_iload hx hb dX2_join_100 (lv_at hl 4 rfl) ?_
          refine lv_icmp_eq (tgt := 107) hx hb dX2_join_102 (by decide) (fun c17 => ?_) (fun c17 => ?_)
          · have hf := br_pos c17 hf
            exact w107 x3 x4 x5 g_there g_back g_uses g_partnerUses _ H locs ls hf hF hP hD hS (lv_sub hl [0, 1, 2, 3, 4, 5] rfl)
          · have hf := br_neg c17 hf
            refine lv_iload_n hx hb dX2_join_105 rfl (lv_at hl 3 rfl) ?_
            cases hf
            have hE : (x3, g_taken, g_chosen, g_there, g_back, g_uses, g_partnerUses) = (r0, v_taken, v_chosen, v_there, v_back, v_uses, v_partnerUses) := hF
            simp only [Prod.mk.injEq] at hE
            obtain ⟨rfl, rfl, rfl, rfl, rfl, rfl, rfl⟩ := hE
            exact rtI hx hb hr hlk hP hD hS dX2_join_106
      rw [eF21]
      obtain ⟨x3, g_there, g_back, g_uses, g_partnerUses⟩ := q
      intro H locs ls hP hD hS hl
      have hP : va_P D vwCl [(a_this, .inr (2, [.ref a_first, .ref a_second, .ref a_chosen, .ref a_there, .ref a_back, .ref a_uses, .ref a_partnerUses, .long g_firstSet, .long g_secondSet, .int g_size, .int g_taken, .int g_paired])), (a_first, .inl (cI, 7, .inl g_first)), (a_second, .inl (cI, 7, .inl g_second)), (a_chosen, .inl (cI, 7, .inl g_chosen)), (a_there, .inl (cI, 81, .inl g_there)), (a_back, .inl (cI, 81, .inl g_back)), (a_uses, .inl (cI, 81, .inl g_uses)), (a_partnerUses, .inl (cI, 81, .inl g_partnerUses))] H := hP
      have hD : va_D A [(a_this, .inr (2, [.ref a_first, .ref a_second, .ref a_chosen, .ref a_there, .ref a_back, .ref a_uses, .ref a_partnerUses, .long g_firstSet, .long g_secondSet, .int g_size, .int g_taken, .int g_paired])), (a_first, .inl (cI, 7, .inl g_first)), (a_second, .inl (cI, 7, .inl g_second)), (a_chosen, .inl (cI, 7, .inl g_chosen)), (a_there, .inl (cI, 81, .inl g_there)), (a_back, .inl (cI, 81, .inl g_back)), (a_uses, .inl (cI, 81, .inl g_uses)), (a_partnerUses, .inl (cI, 81, .inl g_partnerUses))] := hD
      have hl : lv_has ls 6 [(0, .ref a_this), (1, .int x1), (2, .int x2), (3, .int x3)] := hl
      have hf : bX2_join_21 x1 x2 g_taken g_first g_second g_chosen x3 g_there g_back g_uses g_partnerUses = some t := hf
      unfold bX2_join_21 at hf
      refine lv_iload_n hx hb dX2_join_21 rfl (lv_at hl 3 rfl) ?_
      refine lv_iload_n hx hb dX2_join_22 rfl (lv_at hl 1 rfl) ?_
      refine lv_icmp_gt (tgt := 153) hx hb dX2_join_23 (by decide) (fun c18 => ?_) (fun c18 => ?_)
      · have hf := br_pos c18 hf
        refine lv_iload_n hx hb dX2_join_153 rfl (lv_at hl 1 rfl) ?_
        refine lv_iconst (v := 1) hx hb dX2_join_154 (by decide) ?_
        refine lv_iadd hx hb dX2_join_155 ?_
        cases hf
        have hE : (x1 + (1 : Int32), g_taken, g_chosen, g_there, g_back, g_uses, g_partnerUses) = (r0, v_taken, v_chosen, v_there, v_back, v_uses, v_partnerUses) := hF
        simp only [Prod.mk.injEq] at hE
        obtain ⟨rfl, rfl, rfl, rfl, rfl, rfl, rfl⟩ := hE
        exact rtI hx hb hr hlk hP hD hS dX2_join_156
      · have hf := br_neg c18 hf
        refine lv_aload_n hx hb dX2_join_26 rfl (lv_at hl 0 rfl) ?_
        refine va_get (D := D) (ci := 2) (v := .ref a_first) (C := RX2) (T := TX2) (N := 12) hx hb hts z1 hown hN.1 hP 0 rfl rfl 0 (by decide) z6 (fun _ h9 => h9) rfl dX2_join_27 ?_
        refine lv_iload_n hx hb dX2_join_30 rfl (lv_at hl 1 rfl) ?_
        obtain ⟨c19, hf⟩ := gd_some hf
        refine va_iald hx hb hN.1 hP 1 0 rfl rfl (ix_in c19) dX2_join_31 ?_
        refine lv_aload_n hx hb dX2_join_32 rfl (lv_at hl 0 rfl) ?_
        refine va_get (D := D) (ci := 2) (v := .ref a_first) (C := RX2) (T := TX2) (N := 12) hx hb hts z1 hown hN.1 hP 0 rfl rfl 0 (by decide) z6 (fun _ h9 => h9) rfl dX2_join_33 ?_
        refine lv_iload_n hx hb dX2_join_36 rfl (lv_at hl 3 rfl) ?_
        obtain ⟨c20, hf⟩ := gd_some hf
        refine va_iald hx hb hN.1 hP 1 0 rfl rfl (ix_in c20) dX2_join_37 ?_
        refine lv_iadd hx hb dX2_join_38 ?_
        refine lv_topi (fun y21 ey21 => ?_)
        have hf := lt_some hf y21 ey21
        refine lv_istore (lv' := [(4, .int y21), (0, .ref a_this), (1, .int x1), (2, .int x2), (3, .int x3)]) hx hb dX2_join_39 hl (by decide) rfl (fun ls hl => ?_)
        refine lv_aload_n hx hb dX2_join_41 rfl (lv_at hl 1 rfl) ?_
        refine va_get (D := D) (ci := 2) (v := .ref a_second) (C := RX2) (T := TX2) (N := 12) hx hb hts z1 hown hN.1 hP 0 rfl rfl 1 (by decide) z7 (fun _ h9 => h9) rfl dX2_join_42 ?_
        refine lv_iload_n hx hb dX2_join_45 rfl (lv_at hl 3 rfl) ?_
        obtain ⟨c22, hf⟩ := gd_some hf
        refine va_iald hx hb hN.1 hP 2 0 rfl rfl (ix_in c22) dX2_join_46 ?_
        refine lv_aload_n hx hb dX2_join_47 rfl (lv_at hl 1 rfl) ?_
        refine va_get (D := D) (ci := 2) (v := .ref a_second) (C := RX2) (T := TX2) (N := 12) hx hb hts z1 hown hN.1 hP 0 rfl rfl 1 (by decide) z7 (fun _ h9 => h9) rfl dX2_join_48 ?_
        refine lv_aload_n hx hb dX2_join_51 rfl (lv_at hl 1 rfl) ?_
        refine va_get (D := D) (ci := 2) (v := .ref a_chosen) (C := RX2) (T := TX2) (N := 12) hx hb hts z1 hown hN.1 hP 0 rfl rfl 2 (by decide) z8 (fun _ h9 => h9) rfl dX2_join_52 ?_
        refine lv_iload_n hx hb dX2_join_55 rfl (lv_at hl 4 rfl) ?_
        obtain ⟨c23, hf⟩ := gd_some hf
        refine va_iald hx hb hN.1 hP 3 0 rfl rfl (ix_in c23) dX2_join_56 ?_
        obtain ⟨c24, hf⟩ := gd_some hf
        refine va_iald hx hb hN.1 hP 2 0 rfl rfl (ix_in c24) dX2_join_57 ?_
        refine lv_iadd hx hb dX2_join_58 ?_
        refine lv_topi (fun y25 ey25 => ?_)
        have hf := lt_some hf y25 ey25
        refine lv_istore (lv' := [(5, .int y25), (4, .int y21), (0, .ref a_this), (1, .int x1), (2, .int x2), (3, .int x3)]) hx hb dX2_join_59 hl (by decide) rfl (fun ls hl => ?_)
        refine lv_aload_n hx hb dX2_join_61 rfl (lv_at hl 2 rfl) ?_
        refine va_get (D := D) (ci := 2) (v := .ref a_uses) (C := RX2) (T := TX2) (N := 12) hx hb hts z1 hown hN.1 hP 0 rfl rfl 5 (by decide) z4 (fun _ h9 => h9) rfl dX2_join_62 ?_
        refine lv_iload hx hb dX2_join_65 (lv_at hl 1 rfl) ?_
        obtain ⟨c26, hf⟩ := gd_some hf
        refine va_iald hx hb hN.1 hP 6 0 rfl rfl (ix_in c26) dX2_join_67 ?_
        refine lv_if_le (tgt := 83) hx hb dX2_join_68 (by decide) (fun c27 => ?_) (fun c27 => ?_)
        · have hf := br_pos c27 hf
          exact w83 x3 y21 y25 g_there g_back g_uses g_partnerUses _ H locs ls hf hF hP hD hS (lv_sub hl [2, 3, 4, 5, 1, 0] rfl)
        · have hf := br_neg c27 hf
          refine lv_aload_n hx hb dX2_join_71 rfl (lv_at hl 2 rfl) ?_
          refine va_get (D := D) (ci := 2) (v := .ref a_there) (C := RX2) (T := TX2) (N := 12) hx hb hts z1 hown hN.1 hP 0 rfl rfl 3 (by decide) z2 (fun _ h9 => h9) rfl dX2_join_72 ?_
          refine lv_iload hx hb dX2_join_75 (lv_at hl 1 rfl) ?_
          obtain ⟨c28, hf⟩ := gd_some hf
          refine va_iald hx hb hN.1 hP 4 0 rfl rfl (ix_in c28) dX2_join_77 ?_
          refine lv_iload hx hb dX2_join_78 (lv_at hl 0 rfl) ?_
          refine lv_icmp_ne (tgt := 105) hx hb dX2_join_80 (by decide) (fun c29 => ?_) (fun c29 => ?_)
          · have hf := br_neg c29 hf
            refine lv_iload_n hx hb dX2_join_105 rfl (lv_at hl 5 rfl) ?_
            cases hf
            have hE : (x3, g_taken, g_chosen, g_there, g_back, g_uses, g_partnerUses) = (r0, v_taken, v_chosen, v_there, v_back, v_uses, v_partnerUses) := hF
            simp only [Prod.mk.injEq] at hE
            obtain ⟨rfl, rfl, rfl, rfl, rfl, rfl, rfl⟩ := hE
            exact rtI hx hb hr hlk hP hD hS dX2_join_106
          · have hf := br_pos c29 hf
            exact w83 x3 y21 y25 g_there g_back g_uses g_partnerUses _ H locs ls hf hF hP hD hS (lv_sub hl [2, 3, 4, 5, 1, 0] rfl)
    intro x3 g_there g_back g_uses g_partnerUses t H locs ls hf hF hP hD hS hl
    exact ((congrFun eF21 _).mp (key ((x3, g_there, g_back, g_uses, g_partnerUses)) t hf hF)) H locs ls hP hD hS hl
  unfold fX2_join at hf
  obtain ⟨H, eH⟩ : ∃ z, z = s.heap := ⟨_, rfl⟩
  obtain ⟨locs, eL⟩ : ∃ z : List Loc, z = [] := ⟨_, rfl⟩
  have hP : va_P D vwCl [(a_this, .inr (2, [.ref a_first, .ref a_second, .ref a_chosen, .ref a_there, .ref a_back, .ref a_uses, .ref a_partnerUses, .long g_firstSet, .long g_secondSet, .int g_size, .int g_taken, .int g_paired])), (a_first, .inl (cI, 7, .inl g_first)), (a_second, .inl (cI, 7, .inl g_second)), (a_chosen, .inl (cI, 7, .inl g_chosen)), (a_there, .inl (cI, 81, .inl g_there)), (a_back, .inl (cI, 81, .inl g_back)), (a_uses, .inl (cI, 81, .inl g_uses)), (a_partnerUses, .inl (cI, 81, .inl g_partnerUses))] H := by rw [eH]; exact hP
  have hS : va_S A s.heap H locs := by rw [eH, eL]; exact hS
  suffices hG : W p l e rmX2_join s m ([.ref a_this, .int q1, .int q2] : List Value).toArray below meth c H locs 0 0 (MQ below (cQi D r0 A [(a_this, .inr (2, [.ref a_first, .ref a_second, .ref a_chosen, .ref a_there, .ref a_back, .ref a_uses, .ref a_partnerUses, .long g_firstSet, .long g_secondSet, .int g_size, .int v_taken, .int g_paired])), (a_first, .inl (cI, 7, .inl g_first)), (a_second, .inl (cI, 7, .inl g_second)), (a_chosen, .inl (cI, 7, .inl v_chosen)), (a_there, .inl (cI, 81, .inl v_there)), (a_back, .inl (cI, 81, .inl v_back)), (a_uses, .inl (cI, 81, .inl v_uses)), (a_partnerUses, .inl (cI, 81, .inl v_partnerUses))]) ([.ref a_this, .int q1, .int q2] : List Value).toArray s 0 0 A) (F0 m 0 ls []) by rw [eH, eL] at hG; exact hG
  refine lv_aload_n hx hb dX2_join_0 rfl (lv_at hl 0 rfl) ?_
  refine va_get (D := D) (ci := 2) (v := .ref a_chosen) (C := RX2) (T := TX2) (N := 12) hx hb hts z1 hown hN.1 hP 0 rfl rfl 2 (by decide) z8 (fun _ h9 => h9) rfl dX2_join_1 ?_
  refine lv_iload_n hx hb dX2_join_4 rfl (lv_at hl 1 rfl) ?_
  refine lv_iload_n hx hb dX2_join_5 rfl (lv_at hl 2 rfl) ?_
  obtain ⟨c30, hf⟩ := gd_some hf
  refine va_iast hx hb hN.1 hP hD hS 3 0 rfl rfl (ix_in c30) dX2_join_6 (fun H locs hP hD hS => ?_)
  obtain ⟨y31, ey31⟩ : ∃ z, z = upd g_chosen q1.toNatClampNeg q2 := ⟨_, rfl⟩
  have hf := lt_some hf y31 ey31
  have hP : va_P D vwCl [(a_this, .inr (2, [.ref a_first, .ref a_second, .ref a_chosen, .ref a_there, .ref a_back, .ref a_uses, .ref a_partnerUses, .long g_firstSet, .long g_secondSet, .int g_size, .int g_taken, .int g_paired])), (a_first, .inl (cI, 7, .inl g_first)), (a_second, .inl (cI, 7, .inl g_second)), (a_chosen, .inl (cI, 7, .inl y31)), (a_there, .inl (cI, 81, .inl g_there)), (a_back, .inl (cI, 81, .inl g_back)), (a_uses, .inl (cI, 81, .inl g_uses)), (a_partnerUses, .inl (cI, 81, .inl g_partnerUses))] H := by rw [ey31]; exact hP
  have hD : va_D A [(a_this, .inr (2, [.ref a_first, .ref a_second, .ref a_chosen, .ref a_there, .ref a_back, .ref a_uses, .ref a_partnerUses, .long g_firstSet, .long g_secondSet, .int g_size, .int g_taken, .int g_paired])), (a_first, .inl (cI, 7, .inl g_first)), (a_second, .inl (cI, 7, .inl g_second)), (a_chosen, .inl (cI, 7, .inl y31)), (a_there, .inl (cI, 81, .inl g_there)), (a_back, .inl (cI, 81, .inl g_back)), (a_uses, .inl (cI, 81, .inl g_uses)), (a_partnerUses, .inl (cI, 81, .inl g_partnerUses))] := by rw [ey31]; exact hD
  refine lv_aload_n hx hb dX2_join_7 rfl (lv_at hl 0 rfl) ?_
  refine lv_dup hx hb dX2_join_8 rfl ?_
  refine va_get (D := D) (ci := 2) (v := .int g_taken) (C := RX2) (T := TX2) (N := 12) hx hb hts z1 hown hN.1 hP 0 rfl rfl 10 (by decide) z9 (fun _ h9 => h9) rfl dX2_join_9 ?_
  refine lv_iconst (v := 1) hx hb dX2_join_12 (by decide) ?_
  refine lv_iload_n hx hb dX2_join_13 rfl (lv_at hl 2 rfl) ?_
  refine lv_ishl hx hb dX2_join_14 ?_
  refine lv_ior hx hb dX2_join_15 ?_
  refine lv_topi (fun y32 ey32 => ?_)
  have hf := lt_some hf y32 ey32
  refine va_put (D := D) (ci := 2) (v := .int y32) (ty := .int) (C := RX2) (T := TX2) (N := 12) hx hb hts z1 tyX2 tyX2_ok nmX2 hown hN.1 hP hD hS 0 rfl rfl 10 (by decide) z9 (fun _ h9 => h9) rfl (by decide +kernel) rfl rfl (Nat.le_of_ble_eq_true rfl) dX2_join_16 (fun H locs hP hD hS => ?_)
  have hP : va_P D vwCl [(a_this, .inr (2, [.ref a_first, .ref a_second, .ref a_chosen, .ref a_there, .ref a_back, .ref a_uses, .ref a_partnerUses, .long g_firstSet, .long g_secondSet, .int g_size, .int y32, .int g_paired])), (a_first, .inl (cI, 7, .inl g_first)), (a_second, .inl (cI, 7, .inl g_second)), (a_chosen, .inl (cI, 7, .inl y31)), (a_there, .inl (cI, 81, .inl g_there)), (a_back, .inl (cI, 81, .inl g_back)), (a_uses, .inl (cI, 81, .inl g_uses)), (a_partnerUses, .inl (cI, 81, .inl g_partnerUses))] H := hP
  have hD : va_D A [(a_this, .inr (2, [.ref a_first, .ref a_second, .ref a_chosen, .ref a_there, .ref a_back, .ref a_uses, .ref a_partnerUses, .long g_firstSet, .long g_secondSet, .int g_size, .int y32, .int g_paired])), (a_first, .inl (cI, 7, .inl g_first)), (a_second, .inl (cI, 7, .inl g_second)), (a_chosen, .inl (cI, 7, .inl y31)), (a_there, .inl (cI, 81, .inl g_there)), (a_back, .inl (cI, 81, .inl g_back)), (a_uses, .inl (cI, 81, .inl g_uses)), (a_partnerUses, .inl (cI, 81, .inl g_partnerUses))] := hD
  refine lv_iconst (v := 0) hx hb dX2_join_19 (by decide) ?_
  refine lv_istore_n (lv' := [(3, .int (0 : Int32)), (0, .ref a_this), (1, .int q1), (2, .int q2)]) hx hb dX2_join_20 rfl hl (by decide) rfl (fun ls hl => ?_)
  exact w21 q1 q2 y32 g_first g_second y31 (0 : Int32) g_there g_back g_uses g_partnerUses (r0, v_taken, v_chosen, v_there, v_back, v_uses, v_partnerUses) H locs ls hf rfl hP hD hS (lv_sub hl [1, 2, 3, 0] rfl)
abbrev rmX2_part : Room := { frames := 0, cells := 0, slots := 0, locals := 0 }
noncomputable def bX2_part_24 (x1 : Int32) (x2 : Int32) (x3 : Int32) (g_taken : Int32) (g_first : Nat → Int32) (g_second : Nat → Int32) (g_chosen : Nat → Int32) (x4 : Int32) (g_uses : Nat → Int32) (g_partnerUses : Nat → Int32) : Option ((Int32 × (Nat → Int32) × (Nat → Int32)) ⊕ (Int32 × (Nat → Int32) × (Nat → Int32))) := br (x2 ≤ x4) (some (Sum.inr ((g_taken, g_uses, g_partnerUses)))) (br (x1 < x4) (some (Sum.inr ((g_taken, g_uses, g_partnerUses)))) (gd (¬ x1 < 0 ∧ x1.toNatClampNeg < 7) (gd (¬ x4 < 0 ∧ x4.toNatClampNeg < 7) (gd (¬ ((g_first x1.toNatClampNeg) + (g_first x4.toNatClampNeg)) < 0 ∧ ((g_first x1.toNatClampNeg) + (g_first x4.toNatClampNeg)).toNatClampNeg < 81) (lt_ ((g_uses ((g_first x1.toNatClampNeg) + (g_first x4.toNatClampNeg)).toNatClampNeg) - (1 : Int32)) (fun y6 => gd (¬ ((g_first x1.toNatClampNeg) + (g_first x4.toNatClampNeg)) < 0 ∧ ((g_first x1.toNatClampNeg) + (g_first x4.toNatClampNeg)).toNatClampNeg < 81) (lt_ (upd g_uses ((g_first x1.toNatClampNeg) + (g_first x4.toNatClampNeg)).toNatClampNeg y6) (fun y8 => gd (¬ x3 < 0 ∧ x3.toNatClampNeg < 7) (gd (¬ x4 < 0 ∧ x4.toNatClampNeg < 7) (gd (¬ (g_chosen x4.toNatClampNeg) < 0 ∧ (g_chosen x4.toNatClampNeg).toNatClampNeg < 7) (gd (¬ ((g_second x3.toNatClampNeg) + (g_second (g_chosen x4.toNatClampNeg).toNatClampNeg)) < 0 ∧ ((g_second x3.toNatClampNeg) + (g_second (g_chosen x4.toNatClampNeg).toNatClampNeg)).toNatClampNeg < 81) (lt_ ((g_partnerUses ((g_second x3.toNatClampNeg) + (g_second (g_chosen x4.toNatClampNeg).toNatClampNeg)).toNatClampNeg) - (1 : Int32)) (fun y13 => gd (¬ ((g_second x3.toNatClampNeg) + (g_second (g_chosen x4.toNatClampNeg).toNatClampNeg)) < 0 ∧ ((g_second x3.toNatClampNeg) + (g_second (g_chosen x4.toNatClampNeg).toNatClampNeg)).toNatClampNeg < 81) (lt_ (upd g_partnerUses ((g_second x3.toNatClampNeg) + (g_second (g_chosen x4.toNatClampNeg).toNatClampNeg)).toNatClampNeg y13) (fun y15 => lt_ (x4 + (1 : Int32)) (fun y16 => some (Sum.inl ((y16, y8, y15)))))))))))))))))))
noncomputable def sX2_part_24 (x1 : Int32) (x2 : Int32) (x3 : Int32) (g_taken : Int32) (g_first : Nat → Int32) (g_second : Nat → Int32) (g_chosen : Nat → Int32) : (Int32 × (Nat → Int32) × (Nat → Int32)) → Option ((Int32 × (Nat → Int32) × (Nat → Int32)) ⊕ (Int32 × (Nat → Int32) × (Nat → Int32))) := fun q => bX2_part_24 x1 x2 x3 g_taken g_first g_second g_chosen q.1 q.2.1 q.2.2
noncomputable def fX2_part (q1 : Int32) (q2 : Int32) (g_taken : Int32) (g_first : Nat → Int32) (g_second : Nat → Int32) (g_chosen : Nat → Int32) (g_uses : Nat → Int32) (g_partnerUses : Nat → Int32) : Option (Int32 × (Nat → Int32) × (Nat → Int32)) := gd (¬ q1 < 0 ∧ q1.toNatClampNeg < 7) (lt_ (g_chosen q1.toNatClampNeg) (fun y18 => lt_ (g_taken &&& (((1 : Int32) <<< (y18 &&& 31)) ^^^ (-1 : Int32))) (fun y19 => run (sX2_part_24 q1 q2 y18 y19 g_first g_second g_chosen) (((0 : Int32), g_uses, g_partnerUses)))))
set_option maxHeartbeats 4000000 in
set_option maxRecDepth 100000 in
theorem cX2_part_ct (l : Launch) (D : va_G) (cI cL cC cZ : ClassId) (a_this a_first a_second a_chosen a_there a_back a_uses a_partnerUses : Nat) (g_firstSet : Int64) (g_secondSet : Int64) (g_size : Int32) (g_taken : Int32) (g_paired : Int32) (g_first : Nat → Int32) (g_second : Nat → Int32) (g_chosen : Nat → Int32) (g_uses : Nat → Int32) (g_partnerUses : Nat → Int32) (q1 : Int32) (q2 : Int32) (v_taken : Int32) (v_uses : Nat → Int32) (v_partnerUses : Nat → Int32) (hf : fX2_part q1 q2 g_taken g_first g_second g_chosen g_uses g_partnerUses = some ((v_taken, v_uses, v_partnerUses))) : CtV l yX2_part wsX2_part rmX2_part D (tyz cI cL cC cZ) [.ref a_this, .int q1, .int q2] [(a_this, .inr (2, [.ref a_first, .ref a_second, .ref a_chosen, .ref a_there, .ref a_back, .ref a_uses, .ref a_partnerUses, .long g_firstSet, .long g_secondSet, .int g_size, .int g_taken, .int g_paired])), (a_first, .inl (cI, 7, .inl g_first)), (a_second, .inl (cI, 7, .inl g_second)), (a_chosen, .inl (cI, 7, .inl g_chosen)), (a_uses, .inl (cI, 81, .inl g_uses)), (a_partnerUses, .inl (cI, 81, .inl g_partnerUses))] [(a_this, .inr (2, [.ref a_first, .ref a_second, .ref a_chosen, .ref a_there, .ref a_back, .ref a_uses, .ref a_partnerUses, .long g_firstSet, .long g_secondSet, .int g_size, .int v_taken, .int g_paired])), (a_first, .inl (cI, 7, .inl g_first)), (a_second, .inl (cI, 7, .inl g_second)), (a_chosen, .inl (cI, 7, .inl g_chosen)), (a_uses, .inl (cI, 81, .inl v_uses)), (a_partnerUses, .inl (cI, 81, .inl v_partnerUses))] := by
  refine CtV.make (cc := cX2_part) (maxL := 5) (by decide) rfl (Nat.le_of_ble_eq_true rfl) ?_
  intro p e s m below meth c A ls C0 hN hA hP hD hl
  obtain ⟨hx, hb, hr, hml, hown, hts, hlk⟩ := id C0
  have hown : s.vm.findClass RX2 = some m.cls := hown
  have hS : va_S A s.heap s.heap [] := va_S.rf
  have hP : va_P D vwCl [(a_this, .inr (2, [.ref a_first, .ref a_second, .ref a_chosen, .ref a_there, .ref a_back, .ref a_uses, .ref a_partnerUses, .long g_firstSet, .long g_secondSet, .int g_size, .int g_taken, .int g_paired])), (a_first, .inl (cI, 7, .inl g_first)), (a_second, .inl (cI, 7, .inl g_second)), (a_chosen, .inl (cI, 7, .inl g_chosen)), (a_uses, .inl (cI, 81, .inl g_uses)), (a_partnerUses, .inl (cI, 81, .inl g_partnerUses))] s.heap := hP
  have hD : va_D A [(a_this, .inr (2, [.ref a_first, .ref a_second, .ref a_chosen, .ref a_there, .ref a_back, .ref a_uses, .ref a_partnerUses, .long g_firstSet, .long g_secondSet, .int g_size, .int g_taken, .int g_paired])), (a_first, .inl (cI, 7, .inl g_first)), (a_second, .inl (cI, 7, .inl g_second)), (a_chosen, .inl (cI, 7, .inl g_chosen)), (a_uses, .inl (cI, 81, .inl g_uses)), (a_partnerUses, .inl (cI, 81, .inl g_partnerUses))] := hD
  have hl : lv_has ls 5 [(0, .ref a_this), (1, .int q1), (2, .int q2)] := hl
  have z1 : ∀ w ∈ u_ws RX2 TX2 12, w ∈ wsX2_part := by decide +kernel
  have z2 := hts (.fieldLink RX2 27 "LittleSums$PairingSearch" "uses" "[I") (by decide +kernel)
  have z3 := hts (.fieldLink RX2 9 "LittleSums$PairingSearch" "first" "[I") (by decide +kernel)
  have z4 := hts (.fieldLink RX2 30 "LittleSums$PairingSearch" "partnerUses" "[I") (by decide +kernel)
  have z5 := hts (.fieldLink RX2 15 "LittleSums$PairingSearch" "second" "[I") (by decide +kernel)
  have z6 := hts (.fieldLink RX2 18 "LittleSums$PairingSearch" "chosen" "[I") (by decide +kernel)
  have z7 := hts (.fieldLink RX2 54 "LittleSums$PairingSearch" "taken" "I") (by decide +kernel)
  have w24 : ∀ (x1 : Int32) (x2 : Int32) (x3 : Int32) (g_taken : Int32) (g_first : Nat → Int32) (g_second : Nat → Int32) (g_chosen : Nat → Int32) (x4 : Int32) (g_uses : Nat → Int32) (g_partnerUses : Nat → Int32) (t : Int32 × (Nat → Int32) × (Nat → Int32)) (H : Heap) (locs : List Loc) (ls : Array Slot), run (sX2_part_24 x1 x2 x3 g_taken g_first g_second g_chosen) ((x4, g_uses, g_partnerUses)) = some t → (fun z => z = (v_taken, v_uses, v_partnerUses)) t → va_P D vwCl [(a_this, .inr (2, [.ref a_first, .ref a_second, .ref a_chosen, .ref a_there, .ref a_back, .ref a_uses, .ref a_partnerUses, .long g_firstSet, .long g_secondSet, .int g_size, .int g_taken, .int g_paired])), (a_first, .inl (cI, 7, .inl g_first)), (a_second, .inl (cI, 7, .inl g_second)), (a_chosen, .inl (cI, 7, .inl g_chosen)), (a_uses, .inl (cI, 81, .inl g_uses)), (a_partnerUses, .inl (cI, 81, .inl g_partnerUses))] H → va_D A [(a_this, .inr (2, [.ref a_first, .ref a_second, .ref a_chosen, .ref a_there, .ref a_back, .ref a_uses, .ref a_partnerUses, .long g_firstSet, .long g_secondSet, .int g_size, .int g_taken, .int g_paired])), (a_first, .inl (cI, 7, .inl g_first)), (a_second, .inl (cI, 7, .inl g_second)), (a_chosen, .inl (cI, 7, .inl g_chosen)), (a_uses, .inl (cI, 81, .inl g_uses)), (a_partnerUses, .inl (cI, 81, .inl g_partnerUses))] → va_S A s.heap H locs → lv_has ls 5 [(0, .ref a_this), (1, .int x1), (2, .int x2), (3, .int x3), (4, .int x4)] → W p l e rmX2_part s m ([.ref a_this, .int q1, .int q2] : List Value).toArray below meth c H locs 0 0 (MQ below (cQv D A [(a_this, .inr (2, [.ref a_first, .ref a_second, .ref a_chosen, .ref a_there, .ref a_back, .ref a_uses, .ref a_partnerUses, .long g_firstSet, .long g_secondSet, .int g_size, .int v_taken, .int g_paired])), (a_first, .inl (cI, 7, .inl g_first)), (a_second, .inl (cI, 7, .inl g_second)), (a_chosen, .inl (cI, 7, .inl g_chosen)), (a_uses, .inl (cI, 81, .inl v_uses)), (a_partnerUses, .inl (cI, 81, .inl v_partnerUses))]) ([.ref a_this, .int q1, .int q2] : List Value).toArray s 0 0 A) (F0 m 24 ls []) := by
    intro x1 x2 x3 g_taken g_first g_second g_chosen
    obtain ⟨F24, eF24⟩ : ∃ F : (Int32 × (Nat → Int32) × (Nat → Int32)) → Prop, F = fun q => ∀ (H : Heap) (locs : List Loc) (ls : Array Slot), va_P D vwCl [(a_this, .inr (2, [.ref a_first, .ref a_second, .ref a_chosen, .ref a_there, .ref a_back, .ref a_uses, .ref a_partnerUses, .long g_firstSet, .long g_secondSet, .int g_size, .int g_taken, .int g_paired])), (a_first, .inl (cI, 7, .inl g_first)), (a_second, .inl (cI, 7, .inl g_second)), (a_chosen, .inl (cI, 7, .inl g_chosen)), (a_uses, .inl (cI, 81, .inl q.2.1)), (a_partnerUses, .inl (cI, 81, .inl q.2.2))] H → va_D A [(a_this, .inr (2, [.ref a_first, .ref a_second, .ref a_chosen, .ref a_there, .ref a_back, .ref a_uses, .ref a_partnerUses, .long g_firstSet, .long g_secondSet, .int g_size, .int g_taken, .int g_paired])), (a_first, .inl (cI, 7, .inl g_first)), (a_second, .inl (cI, 7, .inl g_second)), (a_chosen, .inl (cI, 7, .inl g_chosen)), (a_uses, .inl (cI, 81, .inl q.2.1)), (a_partnerUses, .inl (cI, 81, .inl q.2.2))] → va_S A s.heap H locs → lv_has ls 5 [(0, .ref a_this), (1, .int x1), (2, .int x2), (3, .int x3), (4, .int q.1)] → W p l e rmX2_part s m ([.ref a_this, .int q1, .int q2] : List Value).toArray below meth c H locs 0 0 (MQ below (cQv D A [(a_this, .inr (2, [.ref a_first, .ref a_second, .ref a_chosen, .ref a_there, .ref a_back, .ref a_uses, .ref a_partnerUses, .long g_firstSet, .long g_secondSet, .int g_size, .int v_taken, .int g_paired])), (a_first, .inl (cI, 7, .inl g_first)), (a_second, .inl (cI, 7, .inl g_second)), (a_chosen, .inl (cI, 7, .inl g_chosen)), (a_uses, .inl (cI, 81, .inl v_uses)), (a_partnerUses, .inl (cI, 81, .inl v_partnerUses))]) ([.ref a_this, .int q1, .int q2] : List Value).toArray s 0 0 A) (F0 m 24 ls []) := ⟨_, rfl⟩
    have key : ∀ (q : Int32 × (Nat → Int32) × (Nat → Int32)) (t : Int32 × (Nat → Int32) × (Nat → Int32)), run (sX2_part_24 x1 x2 x3 g_taken g_first g_second g_chosen) q = some t → (fun z => z = (v_taken, v_uses, v_partnerUses)) t → F24 q := by
      refine loop_rule (sX2_part_24 x1 x2 x3 g_taken g_first g_second g_chosen) F24 (fun z => z = (v_taken, v_uses, v_partnerUses)) ?_
      intro q t hf hF
      have hF : (Sum.elim F24 (fun z => z = (v_taken, v_uses, v_partnerUses))) t := hF
      rw [eF24]
      obtain ⟨x4, g_uses, g_partnerUses⟩ := q
      intro H locs ls hP hD hS hl
      have hP : va_P D vwCl [(a_this, .inr (2, [.ref a_first, .ref a_second, .ref a_chosen, .ref a_there, .ref a_back, .ref a_uses, .ref a_partnerUses, .long g_firstSet, .long g_secondSet, .int g_size, .int g_taken, .int g_paired])), (a_first, .inl (cI, 7, .inl g_first)), (a_second, .inl (cI, 7, .inl g_second)), (a_chosen, .inl (cI, 7, .inl g_chosen)), (a_uses, .inl (cI, 81, .inl g_uses)), (a_partnerUses, .inl (cI, 81, .inl g_partnerUses))] H := hP
      have hD : va_D A [(a_this, .inr (2, [.ref a_first, .ref a_second, .ref a_chosen, .ref a_there, .ref a_back, .ref a_uses, .ref a_partnerUses, .long g_firstSet, .long g_secondSet, .int g_size, .int g_taken, .int g_paired])), (a_first, .inl (cI, 7, .inl g_first)), (a_second, .inl (cI, 7, .inl g_second)), (a_chosen, .inl (cI, 7, .inl g_chosen)), (a_uses, .inl (cI, 81, .inl g_uses)), (a_partnerUses, .inl (cI, 81, .inl g_partnerUses))] := hD
      have hl : lv_has ls 5 [(0, .ref a_this), (1, .int x1), (2, .int x2), (3, .int x3), (4, .int x4)] := hl
      have hf : bX2_part_24 x1 x2 x3 g_taken g_first g_second g_chosen x4 g_uses g_partnerUses = some t := hf
      unfold bX2_part_24 at hf
      refine lv_iload hx hb dX2_part_24 (lv_at hl 4 rfl) ?_
      refine lv_iload_n hx hb dX2_part_26 rfl (lv_at hl 2 rfl) ?_
      refine lv_icmp_ge (tgt := 93) hx hb dX2_part_27 (by decide) (fun c1 => ?_) (fun c1 => ?_)
      · have hf := br_pos c1 hf
        cases hf
        have hE : (g_taken, g_uses, g_partnerUses) = (v_taken, v_uses, v_partnerUses) := hF
        simp only [Prod.mk.injEq] at hE
        obtain ⟨rfl, rfl, rfl⟩ := hE
        exact rtV hx hb hr hlk hP hD hS dX2_part_93
      · have hf := br_neg c1 hf
        refine lv_iload hx hb dX2_part_30 (lv_at hl 4 rfl) ?_
        refine lv_iload_n hx hb dX2_part_32 rfl (lv_at hl 1 rfl) ?_
        refine lv_icmp_gt (tgt := 93) hx hb dX2_part_33 (by decide) (fun c2 => ?_) (fun c2 => ?_)
        · have hf := br_pos c2 hf
          cases hf
          have hE : (g_taken, g_uses, g_partnerUses) = (v_taken, v_uses, v_partnerUses) := hF
          simp only [Prod.mk.injEq] at hE
          obtain ⟨rfl, rfl, rfl⟩ := hE
          exact rtV hx hb hr hlk hP hD hS dX2_part_93
        · have hf := br_neg c2 hf
          refine lv_aload_n hx hb dX2_part_36 rfl (lv_at hl 0 rfl) ?_
          refine va_get (D := D) (ci := 2) (v := .ref a_uses) (C := RX2) (T := TX2) (N := 12) hx hb hts z1 hown hN.1 hP 0 rfl rfl 5 (by decide) z2 (fun _ h9 => h9) rfl dX2_part_37 ?_
          refine lv_aload_n hx hb dX2_part_40 rfl (lv_at hl 0 rfl) ?_
          refine va_get (D := D) (ci := 2) (v := .ref a_first) (C := RX2) (T := TX2) (N := 12) hx hb hts z1 hown hN.1 hP 0 rfl rfl 0 (by decide) z3 (fun _ h9 => h9) rfl dX2_part_41 ?_
          refine lv_iload_n hx hb dX2_part_44 rfl (lv_at hl 1 rfl) ?_
          obtain ⟨c3, hf⟩ := gd_some hf
          refine va_iald hx hb hN.1 hP 1 0 rfl rfl (ix_in c3) dX2_part_45 ?_
          refine lv_aload_n hx hb dX2_part_46 rfl (lv_at hl 0 rfl) ?_
          refine va_get (D := D) (ci := 2) (v := .ref a_first) (C := RX2) (T := TX2) (N := 12) hx hb hts z1 hown hN.1 hP 0 rfl rfl 0 (by decide) z3 (fun _ h9 => h9) rfl dX2_part_47 ?_
          refine lv_iload hx hb dX2_part_50 (lv_at hl 4 rfl) ?_
          obtain ⟨c4, hf⟩ := gd_some hf
          refine va_iald hx hb hN.1 hP 1 0 rfl rfl (ix_in c4) dX2_part_52 ?_
          refine lv_iadd hx hb dX2_part_53 ?_
          refine lv_dup2_11 hx hb dX2_part_54 rfl rfl ?_
          obtain ⟨c5, hf⟩ := gd_some hf
          refine va_iald hx hb hN.1 hP 4 0 rfl rfl (ix_in c5) dX2_part_55 ?_
          refine lv_iconst (v := 1) hx hb dX2_part_56 (by decide) ?_
          refine lv_isub hx hb dX2_part_57 ?_
          refine lv_topi (fun y6 ey6 => ?_)
          have hf := lt_some hf y6 ey6
          obtain ⟨c7, hf⟩ := gd_some hf
          refine va_iast hx hb hN.1 hP hD hS 4 0 rfl rfl (ix_in c7) dX2_part_58 (fun H locs hP hD hS => ?_)
          obtain ⟨y8, ey8⟩ : ∃ z, z = upd g_uses ((g_first x1.toNatClampNeg) + (g_first x4.toNatClampNeg)).toNatClampNeg y6 := ⟨_, rfl⟩
          have hf := lt_some hf y8 ey8
          have hP : va_P D vwCl [(a_this, .inr (2, [.ref a_first, .ref a_second, .ref a_chosen, .ref a_there, .ref a_back, .ref a_uses, .ref a_partnerUses, .long g_firstSet, .long g_secondSet, .int g_size, .int g_taken, .int g_paired])), (a_first, .inl (cI, 7, .inl g_first)), (a_second, .inl (cI, 7, .inl g_second)), (a_chosen, .inl (cI, 7, .inl g_chosen)), (a_uses, .inl (cI, 81, .inl y8)), (a_partnerUses, .inl (cI, 81, .inl g_partnerUses))] H := by rw [ey8]; exact hP
          have hD : va_D A [(a_this, .inr (2, [.ref a_first, .ref a_second, .ref a_chosen, .ref a_there, .ref a_back, .ref a_uses, .ref a_partnerUses, .long g_firstSet, .long g_secondSet, .int g_size, .int g_taken, .int g_paired])), (a_first, .inl (cI, 7, .inl g_first)), (a_second, .inl (cI, 7, .inl g_second)), (a_chosen, .inl (cI, 7, .inl g_chosen)), (a_uses, .inl (cI, 81, .inl y8)), (a_partnerUses, .inl (cI, 81, .inl g_partnerUses))] := by rw [ey8]; exact hD
          refine lv_aload_n hx hb dX2_part_59 rfl (lv_at hl 0 rfl) ?_
          refine va_get (D := D) (ci := 2) (v := .ref a_partnerUses) (C := RX2) (T := TX2) (N := 12) hx hb hts z1 hown hN.1 hP 0 rfl rfl 6 (by decide) z4 (fun _ h9 => h9) rfl dX2_part_60 ?_
          refine lv_aload_n hx hb dX2_part_63 rfl (lv_at hl 0 rfl) ?_
          refine va_get (D := D) (ci := 2) (v := .ref a_second) (C := RX2) (T := TX2) (N := 12) hx hb hts z1 hown hN.1 hP 0 rfl rfl 1 (by decide) z5 (fun _ h9 => h9) rfl dX2_part_64 ?_
          refine lv_iload_n hx hb dX2_part_67 rfl (lv_at hl 3 rfl) ?_
          obtain ⟨c9, hf⟩ := gd_some hf
          refine va_iald hx hb hN.1 hP 2 0 rfl rfl (ix_in c9) dX2_part_68 ?_
          refine lv_aload_n hx hb dX2_part_69 rfl (lv_at hl 0 rfl) ?_
          refine va_get (D := D) (ci := 2) (v := .ref a_second) (C := RX2) (T := TX2) (N := 12) hx hb hts z1 hown hN.1 hP 0 rfl rfl 1 (by decide) z5 (fun _ h9 => h9) rfl dX2_part_70 ?_
          refine lv_aload_n hx hb dX2_part_73 rfl (lv_at hl 0 rfl) ?_
          refine va_get (D := D) (ci := 2) (v := .ref a_chosen) (C := RX2) (T := TX2) (N := 12) hx hb hts z1 hown hN.1 hP 0 rfl rfl 2 (by decide) z6 (fun _ h9 => h9) rfl dX2_part_74 ?_
          refine lv_iload hx hb dX2_part_77 (lv_at hl 4 rfl) ?_
          obtain ⟨c10, hf⟩ := gd_some hf
          refine va_iald hx hb hN.1 hP 3 0 rfl rfl (ix_in c10) dX2_part_79 ?_
          obtain ⟨c11, hf⟩ := gd_some hf
          refine va_iald hx hb hN.1 hP 2 0 rfl rfl (ix_in c11) dX2_part_80 ?_
          refine lv_iadd hx hb dX2_part_81 ?_
          refine lv_dup2_11 hx hb dX2_part_82 rfl rfl ?_
          obtain ⟨c12, hf⟩ := gd_some hf
          refine va_iald hx hb hN.1 hP 5 0 rfl rfl (ix_in c12) dX2_part_83 ?_
          refine lv_iconst (v := 1) hx hb dX2_part_84 (by decide) ?_
          refine lv_isub hx hb dX2_part_85 ?_
          refine lv_topi (fun y13 ey13 => ?_)
          have hf := lt_some hf y13 ey13
          obtain ⟨c14, hf⟩ := gd_some hf
          refine va_iast hx hb hN.1 hP hD hS 5 0 rfl rfl (ix_in c14) dX2_part_86 (fun H locs hP hD hS => ?_)
          obtain ⟨y15, ey15⟩ : ∃ z, z = upd g_partnerUses ((g_second x3.toNatClampNeg) + (g_second (g_chosen x4.toNatClampNeg).toNatClampNeg)).toNatClampNeg y13 := ⟨_, rfl⟩
          have hf := lt_some hf y15 ey15
          have hP : va_P D vwCl [(a_this, .inr (2, [.ref a_first, .ref a_second, .ref a_chosen, .ref a_there, .ref a_back, .ref a_uses, .ref a_partnerUses, .long g_firstSet, .long g_secondSet, .int g_size, .int g_taken, .int g_paired])), (a_first, .inl (cI, 7, .inl g_first)), (a_second, .inl (cI, 7, .inl g_second)), (a_chosen, .inl (cI, 7, .inl g_chosen)), (a_uses, .inl (cI, 81, .inl y8)), (a_partnerUses, .inl (cI, 81, .inl y15))] H := by rw [ey15]; exact hP
          have hD : va_D A [(a_this, .inr (2, [.ref a_first, .ref a_second, .ref a_chosen, .ref a_there, .ref a_back, .ref a_uses, .ref a_partnerUses, .long g_firstSet, .long g_secondSet, .int g_size, .int g_taken, .int g_paired])), (a_first, .inl (cI, 7, .inl g_first)), (a_second, .inl (cI, 7, .inl g_second)), (a_chosen, .inl (cI, 7, .inl g_chosen)), (a_uses, .inl (cI, 81, .inl y8)), (a_partnerUses, .inl (cI, 81, .inl y15))] := by rw [ey15]; exact hD
          obtain ⟨y16, ey16⟩ : ∃ z : Int32, z = x4 + (1 : Int32) := ⟨_, rfl⟩
          have hf := lt_some hf y16 ey16
          refine lv_iinc (v := y16) (lv' := [(4, .int y16), (0, .ref a_this), (1, .int x1), (2, .int x2), (3, .int x3)]) hx hb dX2_part_87 hl (k := 4) rfl (by rw [ey16]; rfl) (by decide) rfl (fun ls hl => ?_)
          refine lv_goto (tgt := 24) hx hb dX2_part_90 (by decide) ?_
          cases hf
          exact ((congrFun eF24 _).mp hF) H locs ls hP hD hS (lv_sub hl [1, 2, 3, 4, 0] rfl)
    intro x4 g_uses g_partnerUses t H locs ls hf hF hP hD hS hl
    exact ((congrFun eF24 _).mp (key ((x4, g_uses, g_partnerUses)) t hf hF)) H locs ls hP hD hS hl
  unfold fX2_part at hf
  obtain ⟨H, eH⟩ : ∃ z, z = s.heap := ⟨_, rfl⟩
  obtain ⟨locs, eL⟩ : ∃ z : List Loc, z = [] := ⟨_, rfl⟩
  have hP : va_P D vwCl [(a_this, .inr (2, [.ref a_first, .ref a_second, .ref a_chosen, .ref a_there, .ref a_back, .ref a_uses, .ref a_partnerUses, .long g_firstSet, .long g_secondSet, .int g_size, .int g_taken, .int g_paired])), (a_first, .inl (cI, 7, .inl g_first)), (a_second, .inl (cI, 7, .inl g_second)), (a_chosen, .inl (cI, 7, .inl g_chosen)), (a_uses, .inl (cI, 81, .inl g_uses)), (a_partnerUses, .inl (cI, 81, .inl g_partnerUses))] H := by rw [eH]; exact hP
  have hS : va_S A s.heap H locs := by rw [eH, eL]; exact hS
  suffices hG : W p l e rmX2_part s m ([.ref a_this, .int q1, .int q2] : List Value).toArray below meth c H locs 0 0 (MQ below (cQv D A [(a_this, .inr (2, [.ref a_first, .ref a_second, .ref a_chosen, .ref a_there, .ref a_back, .ref a_uses, .ref a_partnerUses, .long g_firstSet, .long g_secondSet, .int g_size, .int v_taken, .int g_paired])), (a_first, .inl (cI, 7, .inl g_first)), (a_second, .inl (cI, 7, .inl g_second)), (a_chosen, .inl (cI, 7, .inl g_chosen)), (a_uses, .inl (cI, 81, .inl v_uses)), (a_partnerUses, .inl (cI, 81, .inl v_partnerUses))]) ([.ref a_this, .int q1, .int q2] : List Value).toArray s 0 0 A) (F0 m 0 ls []) by rw [eH, eL] at hG; exact hG
  refine lv_aload_n hx hb dX2_part_0 rfl (lv_at hl 0 rfl) ?_
  refine va_get (D := D) (ci := 2) (v := .ref a_chosen) (C := RX2) (T := TX2) (N := 12) hx hb hts z1 hown hN.1 hP 0 rfl rfl 2 (by decide) z6 (fun _ h9 => h9) rfl dX2_part_1 ?_
  refine lv_iload_n hx hb dX2_part_4 rfl (lv_at hl 1 rfl) ?_
  obtain ⟨c17, hf⟩ := gd_some hf
  refine va_iald hx hb hN.1 hP 3 0 rfl rfl (ix_in c17) dX2_part_5 ?_
  refine lv_topi (fun y18 ey18 => ?_)
  have hf := lt_some hf y18 ey18
  refine lv_istore_n (lv' := [(3, .int y18), (0, .ref a_this), (1, .int q1), (2, .int q2)]) hx hb dX2_part_6 rfl hl (by decide) rfl (fun ls hl => ?_)
  refine lv_aload_n hx hb dX2_part_7 rfl (lv_at hl 1 rfl) ?_
  refine lv_dup hx hb dX2_part_8 rfl ?_
  refine va_get (D := D) (ci := 2) (v := .int g_taken) (C := RX2) (T := TX2) (N := 12) hx hb hts z1 hown hN.1 hP 0 rfl rfl 10 (by decide) z7 (fun _ h9 => h9) rfl dX2_part_9 ?_
  refine lv_iconst (v := 1) hx hb dX2_part_12 (by decide) ?_
  refine lv_iload_n hx hb dX2_part_13 rfl (lv_at hl 0 rfl) ?_
  refine lv_ishl hx hb dX2_part_14 ?_
  refine lv_iconst (v := -1) hx hb dX2_part_15 (by decide) ?_
  refine lv_ixor hx hb dX2_part_16 ?_
  refine lv_iand hx hb dX2_part_17 ?_
  refine lv_topi (fun y19 ey19 => ?_)
  have hf := lt_some hf y19 ey19
  refine va_put (D := D) (ci := 2) (v := .int y19) (ty := .int) (C := RX2) (T := TX2) (N := 12) hx hb hts z1 tyX2 tyX2_ok nmX2 hown hN.1 hP hD hS 0 rfl rfl 10 (by decide) z7 (fun _ h9 => h9) rfl (by decide +kernel) rfl rfl (Nat.le_of_ble_eq_true rfl) dX2_part_18 (fun H locs hP hD hS => ?_)
  have hP : va_P D vwCl [(a_this, .inr (2, [.ref a_first, .ref a_second, .ref a_chosen, .ref a_there, .ref a_back, .ref a_uses, .ref a_partnerUses, .long g_firstSet, .long g_secondSet, .int g_size, .int y19, .int g_paired])), (a_first, .inl (cI, 7, .inl g_first)), (a_second, .inl (cI, 7, .inl g_second)), (a_chosen, .inl (cI, 7, .inl g_chosen)), (a_uses, .inl (cI, 81, .inl g_uses)), (a_partnerUses, .inl (cI, 81, .inl g_partnerUses))] H := hP
  have hD : va_D A [(a_this, .inr (2, [.ref a_first, .ref a_second, .ref a_chosen, .ref a_there, .ref a_back, .ref a_uses, .ref a_partnerUses, .long g_firstSet, .long g_secondSet, .int g_size, .int y19, .int g_paired])), (a_first, .inl (cI, 7, .inl g_first)), (a_second, .inl (cI, 7, .inl g_second)), (a_chosen, .inl (cI, 7, .inl g_chosen)), (a_uses, .inl (cI, 81, .inl g_uses)), (a_partnerUses, .inl (cI, 81, .inl g_partnerUses))] := hD
  refine lv_iconst (v := 0) hx hb dX2_part_21 (by decide) ?_
  refine lv_istore (lv' := [(4, .int (0 : Int32)), (3, .int y18), (0, .ref a_this), (1, .int q1), (2, .int q2)]) hx hb dX2_part_22 hl (by decide) rfl (fun ls hl => ?_)
  exact w24 q1 q2 y18 y19 g_first g_second g_chosen (0 : Int32) g_uses g_partnerUses (v_taken, v_uses, v_partnerUses) H locs ls hf rfl hP hD hS (lv_sub hl [2, 3, 4, 1, 0] rfl)
abbrev rmX2_pairFrom (d : Nat) : Room := { frames := d + 2, cells := 0, slots := 0, locals := 40 * d + 200 }
noncomputable def bX2_pairFrom_67 (rec : Int32 → Int32 → Int32 → (Nat → Int32) → (Nat → Int32) → (Nat → Int32) → (Nat → Int32) → (Nat → Int32) → (Nat → Int32) → (Nat → Int32) → Option (Int32 × Int32 × (Nat → Int32) × (Nat → Int32) × (Nat → Int32) × (Nat → Int32) × (Nat → Int32))) (x1 : Int32) (x2 : Int32) (g_p0_size : Int32) (g_p0_taken : Int32) (g_p0_first : Nat → Int32) (g_p0_second : Nat → Int32) (g_p0_chosen : Nat → Int32) (g_p0_there : Nat → Int32) (g_p0_back : Nat → Int32) (g_p0_uses : Nat → Int32) (g_p0_partnerUses : Nat → Int32) : Option ((Int32 × Int32 × (Nat → Int32) × (Nat → Int32) × (Nat → Int32) × (Nat → Int32) × (Nat → Int32)) ⊕ (Int32 × Int32 × (Nat → Int32) × (Nat → Int32) × (Nat → Int32) × (Nat → Int32) × (Nat → Int32))) := lt_ (x2 + (1 : Int32)) (fun y1 => some (Sum.inl ((y1, g_p0_taken, g_p0_chosen, g_p0_there, g_p0_back, g_p0_uses, g_p0_partnerUses))))
noncomputable def bX2_pairFrom_61 (rec : Int32 → Int32 → Int32 → (Nat → Int32) → (Nat → Int32) → (Nat → Int32) → (Nat → Int32) → (Nat → Int32) → (Nat → Int32) → (Nat → Int32) → Option (Int32 × Int32 × (Nat → Int32) × (Nat → Int32) × (Nat → Int32) × (Nat → Int32) × (Nat → Int32))) (x1 : Int32) (x2 : Int32) (x3 : Int32) (g_p0_size : Int32) (g_p0_taken : Int32) (g_p0_first : Nat → Int32) (g_p0_second : Nat → Int32) (g_p0_chosen : Nat → Int32) (g_p0_there : Nat → Int32) (g_p0_back : Nat → Int32) (g_p0_uses : Nat → Int32) (g_p0_partnerUses : Nat → Int32) : Option ((Int32 × Int32 × (Nat → Int32) × (Nat → Int32) × (Nat → Int32) × (Nat → Int32) × (Nat → Int32)) ⊕ (Int32 × Int32 × (Nat → Int32) × (Nat → Int32) × (Nat → Int32) × (Nat → Int32) × (Nat → Int32))) := bd (fX2_part x1 x3 g_p0_taken g_p0_first g_p0_second g_p0_chosen g_p0_uses g_p0_partnerUses) (fun u2 => bX2_pairFrom_67 rec x1 x2 g_p0_size u2.1 g_p0_first g_p0_second g_p0_chosen g_p0_there g_p0_back u2.2.1 u2.2.2)
noncomputable def bX2_pairFrom_18 (rec : Int32 → Int32 → Int32 → (Nat → Int32) → (Nat → Int32) → (Nat → Int32) → (Nat → Int32) → (Nat → Int32) → (Nat → Int32) → (Nat → Int32) → Option (Int32 × Int32 × (Nat → Int32) × (Nat → Int32) × (Nat → Int32) × (Nat → Int32) × (Nat → Int32))) (x1 : Int32) (g_p0_size : Int32) (g_p0_first : Nat → Int32) (g_p0_second : Nat → Int32) (x2 : Int32) (g_p0_taken : Int32) (g_p0_chosen : Nat → Int32) (g_p0_there : Nat → Int32) (g_p0_back : Nat → Int32) (g_p0_uses : Nat → Int32) (g_p0_partnerUses : Nat → Int32) : Option ((Int32 × Int32 × (Nat → Int32) × (Nat → Int32) × (Nat → Int32) × (Nat → Int32) × (Nat → Int32)) ⊕ (Int32 × Int32 × (Nat → Int32) × (Nat → Int32) × (Nat → Int32) × (Nat → Int32) × (Nat → Int32))) := br (g_p0_size ≤ x2) (gd ((0 : Int32) = 0 ∨ (0 : Int32) = 1) (some (Sum.inr (((0 : Int32), g_p0_taken, g_p0_chosen, g_p0_there, g_p0_back, g_p0_uses, g_p0_partnerUses))))) (br ((((g_p0_taken.toUInt32 >>> (x2.toUInt32 &&& Int32.toUInt32 31)).toInt32) &&& (1 : Int32)) = 0) (bd (fX2_join x1 x2 g_p0_taken g_p0_first g_p0_second g_p0_chosen g_p0_there g_p0_back g_p0_uses g_p0_partnerUses) (fun u6 => br (u6.1 ≤ x1) (bX2_pairFrom_61 rec x1 x2 u6.1 g_p0_size u6.2.1 g_p0_first g_p0_second u6.2.2.1 u6.2.2.2.1 u6.2.2.2.2.1 u6.2.2.2.2.2.1 u6.2.2.2.2.2.2) (bd (rec (x1 + (1 : Int32)) g_p0_size u6.2.1 g_p0_first g_p0_second u6.2.2.1 u6.2.2.2.1 u6.2.2.2.2.1 u6.2.2.2.2.2.1 u6.2.2.2.2.2.2) (fun u8 => br (u8.1 = 0) (bX2_pairFrom_61 rec x1 x2 u6.1 g_p0_size u8.2.1 g_p0_first g_p0_second u8.2.2.1 u8.2.2.2.1 u8.2.2.2.2.1 u8.2.2.2.2.2.1 u8.2.2.2.2.2.2) (gd ((1 : Int32) = 0 ∨ (1 : Int32) = 1) (some (Sum.inr (((1 : Int32), u8.2.1, u8.2.2.1, u8.2.2.2.1, u8.2.2.2.2.1, u8.2.2.2.2.2.1, u8.2.2.2.2.2.2))))))))) (bX2_pairFrom_67 rec x1 x2 g_p0_size g_p0_taken g_p0_first g_p0_second g_p0_chosen g_p0_there g_p0_back g_p0_uses g_p0_partnerUses))
noncomputable def sX2_pairFrom_18 (rec : Int32 → Int32 → Int32 → (Nat → Int32) → (Nat → Int32) → (Nat → Int32) → (Nat → Int32) → (Nat → Int32) → (Nat → Int32) → (Nat → Int32) → Option (Int32 × Int32 × (Nat → Int32) × (Nat → Int32) × (Nat → Int32) × (Nat → Int32) × (Nat → Int32))) (x1 : Int32) (g_p0_size : Int32) (g_p0_first : Nat → Int32) (g_p0_second : Nat → Int32) : (Int32 × Int32 × (Nat → Int32) × (Nat → Int32) × (Nat → Int32) × (Nat → Int32) × (Nat → Int32)) → Option ((Int32 × Int32 × (Nat → Int32) × (Nat → Int32) × (Nat → Int32) × (Nat → Int32) × (Nat → Int32)) ⊕ (Int32 × Int32 × (Nat → Int32) × (Nat → Int32) × (Nat → Int32) × (Nat → Int32) × (Nat → Int32))) := fun q => bX2_pairFrom_18 rec x1 g_p0_size g_p0_first g_p0_second q.1 q.2.1 q.2.2.1 q.2.2.2.1 q.2.2.2.2.1 q.2.2.2.2.2.1 q.2.2.2.2.2.2
noncomputable def fX2_pairFrom_s (rec : Int32 → Int32 → Int32 → (Nat → Int32) → (Nat → Int32) → (Nat → Int32) → (Nat → Int32) → (Nat → Int32) → (Nat → Int32) → (Nat → Int32) → Option (Int32 × Int32 × (Nat → Int32) × (Nat → Int32) × (Nat → Int32) × (Nat → Int32) × (Nat → Int32))) (q1 : Int32) (g_p0_size : Int32) (g_p0_taken : Int32) (g_p0_first : Nat → Int32) (g_p0_second : Nat → Int32) (g_p0_chosen : Nat → Int32) (g_p0_there : Nat → Int32) (g_p0_back : Nat → Int32) (g_p0_uses : Nat → Int32) (g_p0_partnerUses : Nat → Int32) : Option (Int32 × Int32 × (Nat → Int32) × (Nat → Int32) × (Nat → Int32) × (Nat → Int32) × (Nat → Int32)) := br (g_p0_size ≤ q1) (gd ((1 : Int32) = 0 ∨ (1 : Int32) = 1) (some (((1 : Int32), g_p0_taken, g_p0_chosen, g_p0_there, g_p0_back, g_p0_uses, g_p0_partnerUses)))) (br (q1 < (7 : Int32)) (run (sX2_pairFrom_18 rec q1 g_p0_size g_p0_first g_p0_second) (((0 : Int32), g_p0_taken, g_p0_chosen, g_p0_there, g_p0_back, g_p0_uses, g_p0_partnerUses))) (gd ((1 : Int32) = 0 ∨ (1 : Int32) = 1) (some (((1 : Int32), g_p0_taken, g_p0_chosen, g_p0_there, g_p0_back, g_p0_uses, g_p0_partnerUses)))))
noncomputable def fX2_pairFrom : Nat → Int32 → Int32 → Int32 → (Nat → Int32) → (Nat → Int32) → (Nat → Int32) → (Nat → Int32) → (Nat → Int32) → (Nat → Int32) → (Nat → Int32) → Option (Int32 × Int32 × (Nat → Int32) × (Nat → Int32) × (Nat → Int32) × (Nat → Int32) × (Nat → Int32))
  | 0 => fun _ _ _ _ _ _ _ _ _ _ => none
  | d + 1 => fX2_pairFrom_s (fX2_pairFrom d)
set_option maxHeartbeats 4000000 in
set_option maxRecDepth 100000 in
theorem cX2_pairFrom_st (l : Launch) (D : va_G) (cI cL cC cZ : ClassId) (rec : Int32 → Int32 → Int32 → (Nat → Int32) → (Nat → Int32) → (Nat → Int32) → (Nat → Int32) → (Nat → Int32) → (Nat → Int32) → (Nat → Int32) → Option (Int32 × Int32 × (Nat → Int32) × (Nat → Int32) × (Nat → Int32) × (Nat → Int32) × (Nat → Int32))) (d : Nat) (hrec : ∀ (a_p0 a_p0_first a_p0_second a_p0_chosen a_p0_there a_p0_back a_p0_uses a_p0_partnerUses : Nat) (g_p0_firstSet : Int64) (g_p0_secondSet : Int64) (g_p0_size : Int32) (g_p0_taken : Int32) (g_p0_paired : Int32) (g_p0_first : Nat → Int32) (g_p0_second : Nat → Int32) (g_p0_chosen : Nat → Int32) (g_p0_there : Nat → Int32) (g_p0_back : Nat → Int32) (g_p0_uses : Nat → Int32) (g_p0_partnerUses : Nat → Int32) (q1 : Int32) (r0 : Int32) (v_p0_taken : Int32) (v_p0_chosen : Nat → Int32) (v_p0_there : Nat → Int32) (v_p0_back : Nat → Int32) (v_p0_uses : Nat → Int32) (v_p0_partnerUses : Nat → Int32), rec q1 g_p0_size g_p0_taken g_p0_first g_p0_second g_p0_chosen g_p0_there g_p0_back g_p0_uses g_p0_partnerUses = some ((r0, v_p0_taken, v_p0_chosen, v_p0_there, v_p0_back, v_p0_uses, v_p0_partnerUses)) → CtI l yX2_pairFrom wsX2_pairFrom (rmX2_pairFrom d) D (tyz cI cL cC cZ) [.ref a_p0, .int q1] [(a_p0, .inr (2, [.ref a_p0_first, .ref a_p0_second, .ref a_p0_chosen, .ref a_p0_there, .ref a_p0_back, .ref a_p0_uses, .ref a_p0_partnerUses, .long g_p0_firstSet, .long g_p0_secondSet, .int g_p0_size, .int g_p0_taken, .int g_p0_paired])), (a_p0_first, .inl (cI, 7, .inl g_p0_first)), (a_p0_second, .inl (cI, 7, .inl g_p0_second)), (a_p0_chosen, .inl (cI, 7, .inl g_p0_chosen)), (a_p0_there, .inl (cI, 81, .inl g_p0_there)), (a_p0_back, .inl (cI, 81, .inl g_p0_back)), (a_p0_uses, .inl (cI, 81, .inl g_p0_uses)), (a_p0_partnerUses, .inl (cI, 81, .inl g_p0_partnerUses))] [(a_p0, .inr (2, [.ref a_p0_first, .ref a_p0_second, .ref a_p0_chosen, .ref a_p0_there, .ref a_p0_back, .ref a_p0_uses, .ref a_p0_partnerUses, .long g_p0_firstSet, .long g_p0_secondSet, .int g_p0_size, .int v_p0_taken, .int g_p0_paired])), (a_p0_first, .inl (cI, 7, .inl g_p0_first)), (a_p0_second, .inl (cI, 7, .inl g_p0_second)), (a_p0_chosen, .inl (cI, 7, .inl v_p0_chosen)), (a_p0_there, .inl (cI, 81, .inl v_p0_there)), (a_p0_back, .inl (cI, 81, .inl v_p0_back)), (a_p0_uses, .inl (cI, 81, .inl v_p0_uses)), (a_p0_partnerUses, .inl (cI, 81, .inl v_p0_partnerUses))] r0) (a_p0 a_p0_first a_p0_second a_p0_chosen a_p0_there a_p0_back a_p0_uses a_p0_partnerUses : Nat) (g_p0_firstSet : Int64) (g_p0_secondSet : Int64) (g_p0_size : Int32) (g_p0_taken : Int32) (g_p0_paired : Int32) (g_p0_first : Nat → Int32) (g_p0_second : Nat → Int32) (g_p0_chosen : Nat → Int32) (g_p0_there : Nat → Int32) (g_p0_back : Nat → Int32) (g_p0_uses : Nat → Int32) (g_p0_partnerUses : Nat → Int32) (q1 : Int32) (r0 : Int32) (v_p0_taken : Int32) (v_p0_chosen : Nat → Int32) (v_p0_there : Nat → Int32) (v_p0_back : Nat → Int32) (v_p0_uses : Nat → Int32) (v_p0_partnerUses : Nat → Int32) (hf : fX2_pairFrom_s rec q1 g_p0_size g_p0_taken g_p0_first g_p0_second g_p0_chosen g_p0_there g_p0_back g_p0_uses g_p0_partnerUses = some ((r0, v_p0_taken, v_p0_chosen, v_p0_there, v_p0_back, v_p0_uses, v_p0_partnerUses))) : CtI l yX2_pairFrom wsX2_pairFrom (rmX2_pairFrom (d + 1)) D (tyz cI cL cC cZ) [.ref a_p0, .int q1] [(a_p0, .inr (2, [.ref a_p0_first, .ref a_p0_second, .ref a_p0_chosen, .ref a_p0_there, .ref a_p0_back, .ref a_p0_uses, .ref a_p0_partnerUses, .long g_p0_firstSet, .long g_p0_secondSet, .int g_p0_size, .int g_p0_taken, .int g_p0_paired])), (a_p0_first, .inl (cI, 7, .inl g_p0_first)), (a_p0_second, .inl (cI, 7, .inl g_p0_second)), (a_p0_chosen, .inl (cI, 7, .inl g_p0_chosen)), (a_p0_there, .inl (cI, 81, .inl g_p0_there)), (a_p0_back, .inl (cI, 81, .inl g_p0_back)), (a_p0_uses, .inl (cI, 81, .inl g_p0_uses)), (a_p0_partnerUses, .inl (cI, 81, .inl g_p0_partnerUses))] [(a_p0, .inr (2, [.ref a_p0_first, .ref a_p0_second, .ref a_p0_chosen, .ref a_p0_there, .ref a_p0_back, .ref a_p0_uses, .ref a_p0_partnerUses, .long g_p0_firstSet, .long g_p0_secondSet, .int g_p0_size, .int v_p0_taken, .int g_p0_paired])), (a_p0_first, .inl (cI, 7, .inl g_p0_first)), (a_p0_second, .inl (cI, 7, .inl g_p0_second)), (a_p0_chosen, .inl (cI, 7, .inl v_p0_chosen)), (a_p0_there, .inl (cI, 81, .inl v_p0_there)), (a_p0_back, .inl (cI, 81, .inl v_p0_back)), (a_p0_uses, .inl (cI, 81, .inl v_p0_uses)), (a_p0_partnerUses, .inl (cI, 81, .inl v_p0_partnerUses))] r0 := by
  refine CtI.make (cc := cX2_pairFrom) (maxL := 4) (ty := .boolean) (by decide) rfl (Nat.le_of_ble_eq_true rfl) ?_
  intro p e s m below meth c A ls C0 hN hA hP hD hl
  obtain ⟨hx, hb, hr, hml, hown, hts, hlk⟩ := id C0
  have hown : s.vm.findClass RX2 = some m.cls := hown
  have hS : va_S A s.heap s.heap [] := va_S.rf
  have hP : va_P D vwCl [(a_p0, .inr (2, [.ref a_p0_first, .ref a_p0_second, .ref a_p0_chosen, .ref a_p0_there, .ref a_p0_back, .ref a_p0_uses, .ref a_p0_partnerUses, .long g_p0_firstSet, .long g_p0_secondSet, .int g_p0_size, .int g_p0_taken, .int g_p0_paired])), (a_p0_first, .inl (cI, 7, .inl g_p0_first)), (a_p0_second, .inl (cI, 7, .inl g_p0_second)), (a_p0_chosen, .inl (cI, 7, .inl g_p0_chosen)), (a_p0_there, .inl (cI, 81, .inl g_p0_there)), (a_p0_back, .inl (cI, 81, .inl g_p0_back)), (a_p0_uses, .inl (cI, 81, .inl g_p0_uses)), (a_p0_partnerUses, .inl (cI, 81, .inl g_p0_partnerUses))] s.heap := hP
  have hD : va_D A [(a_p0, .inr (2, [.ref a_p0_first, .ref a_p0_second, .ref a_p0_chosen, .ref a_p0_there, .ref a_p0_back, .ref a_p0_uses, .ref a_p0_partnerUses, .long g_p0_firstSet, .long g_p0_secondSet, .int g_p0_size, .int g_p0_taken, .int g_p0_paired])), (a_p0_first, .inl (cI, 7, .inl g_p0_first)), (a_p0_second, .inl (cI, 7, .inl g_p0_second)), (a_p0_chosen, .inl (cI, 7, .inl g_p0_chosen)), (a_p0_there, .inl (cI, 81, .inl g_p0_there)), (a_p0_back, .inl (cI, 81, .inl g_p0_back)), (a_p0_uses, .inl (cI, 81, .inl g_p0_uses)), (a_p0_partnerUses, .inl (cI, 81, .inl g_p0_partnerUses))] := hD
  have hl : lv_has ls 4 [(0, .ref a_p0), (1, .int q1)] := hl
  have z1 := cwV (R := (rmX2_pairFrom (d + 1))) (rm := rmX2_part) (mc := 0) (ms := 0) 2 hts gX2_pairFrom_X2_part rfl rfl rfl (by decide +kernel) ⟨(by dsimp only [rmX2_pairFrom, rmX2_part]; omega), (by dsimp only [rmX2_pairFrom, rmX2_part]; omega)⟩
  have z2 : ∀ w ∈ u_ws RX2 TX2 12, w ∈ wsX2_pairFrom := by decide +kernel
  have z3 := hts (.fieldLink RX2 50 "LittleSums$PairingSearch" "size" "I") (by decide +kernel)
  have z4 := hts (.fieldLink RX2 54 "LittleSums$PairingSearch" "taken" "I") (by decide +kernel)
  have z5 := cwV (R := (rmX2_pairFrom (d + 1))) (rm := rmX2_join) (mc := 0) (ms := 0) 2 hts gX2_pairFrom_X2_join rfl rfl rfl (by decide +kernel) ⟨(by dsimp only [rmX2_pairFrom, rmX2_join]; omega), (by dsimp only [rmX2_pairFrom, rmX2_join]; omega)⟩
  have z6 := va_cwS (R := (rmX2_pairFrom (d + 1))) (rm := (rmX2_pairFrom d)) (mc := 0) (ms := 0) 2 hts gX2_pairFrom_X2_pairFrom rfl rfl rfl (by decide +kernel) ⟨(by dsimp only [rmX2_pairFrom, rmX2_pairFrom]; omega), (by dsimp only [rmX2_pairFrom, rmX2_pairFrom]; omega)⟩
  have w18 : ∀ (x1 : Int32) (g_p0_size : Int32) (g_p0_first : Nat → Int32) (g_p0_second : Nat → Int32) (x2 : Int32) (g_p0_taken : Int32) (g_p0_chosen : Nat → Int32) (g_p0_there : Nat → Int32) (g_p0_back : Nat → Int32) (g_p0_uses : Nat → Int32) (g_p0_partnerUses : Nat → Int32) (t : Int32 × Int32 × (Nat → Int32) × (Nat → Int32) × (Nat → Int32) × (Nat → Int32) × (Nat → Int32)) (H : Heap) (locs : List Loc) (ls : Array Slot), run (sX2_pairFrom_18 rec x1 g_p0_size g_p0_first g_p0_second) ((x2, g_p0_taken, g_p0_chosen, g_p0_there, g_p0_back, g_p0_uses, g_p0_partnerUses)) = some t → (fun z => z = (r0, v_p0_taken, v_p0_chosen, v_p0_there, v_p0_back, v_p0_uses, v_p0_partnerUses)) t → va_P D vwCl [(a_p0, .inr (2, [.ref a_p0_first, .ref a_p0_second, .ref a_p0_chosen, .ref a_p0_there, .ref a_p0_back, .ref a_p0_uses, .ref a_p0_partnerUses, .long g_p0_firstSet, .long g_p0_secondSet, .int g_p0_size, .int g_p0_taken, .int g_p0_paired])), (a_p0_first, .inl (cI, 7, .inl g_p0_first)), (a_p0_second, .inl (cI, 7, .inl g_p0_second)), (a_p0_chosen, .inl (cI, 7, .inl g_p0_chosen)), (a_p0_there, .inl (cI, 81, .inl g_p0_there)), (a_p0_back, .inl (cI, 81, .inl g_p0_back)), (a_p0_uses, .inl (cI, 81, .inl g_p0_uses)), (a_p0_partnerUses, .inl (cI, 81, .inl g_p0_partnerUses))] H → va_D A [(a_p0, .inr (2, [.ref a_p0_first, .ref a_p0_second, .ref a_p0_chosen, .ref a_p0_there, .ref a_p0_back, .ref a_p0_uses, .ref a_p0_partnerUses, .long g_p0_firstSet, .long g_p0_secondSet, .int g_p0_size, .int g_p0_taken, .int g_p0_paired])), (a_p0_first, .inl (cI, 7, .inl g_p0_first)), (a_p0_second, .inl (cI, 7, .inl g_p0_second)), (a_p0_chosen, .inl (cI, 7, .inl g_p0_chosen)), (a_p0_there, .inl (cI, 81, .inl g_p0_there)), (a_p0_back, .inl (cI, 81, .inl g_p0_back)), (a_p0_uses, .inl (cI, 81, .inl g_p0_uses)), (a_p0_partnerUses, .inl (cI, 81, .inl g_p0_partnerUses))] → va_S A s.heap H locs → lv_has ls 4 [(0, .ref a_p0), (1, .int x1), (2, .int x2)] → W p l e (rmX2_pairFrom (d + 1)) s m ([.ref a_p0, .int q1] : List Value).toArray below meth c H locs 0 0 (MQ below (cQi D r0 A [(a_p0, .inr (2, [.ref a_p0_first, .ref a_p0_second, .ref a_p0_chosen, .ref a_p0_there, .ref a_p0_back, .ref a_p0_uses, .ref a_p0_partnerUses, .long g_p0_firstSet, .long g_p0_secondSet, .int g_p0_size, .int v_p0_taken, .int g_p0_paired])), (a_p0_first, .inl (cI, 7, .inl g_p0_first)), (a_p0_second, .inl (cI, 7, .inl g_p0_second)), (a_p0_chosen, .inl (cI, 7, .inl v_p0_chosen)), (a_p0_there, .inl (cI, 81, .inl v_p0_there)), (a_p0_back, .inl (cI, 81, .inl v_p0_back)), (a_p0_uses, .inl (cI, 81, .inl v_p0_uses)), (a_p0_partnerUses, .inl (cI, 81, .inl v_p0_partnerUses))]) ([.ref a_p0, .int q1] : List Value).toArray s 0 0 A) (F0 m 18 ls []) := by
    intro x1 g_p0_size g_p0_first g_p0_second
    obtain ⟨F18, eF18⟩ : ∃ F : (Int32 × Int32 × (Nat → Int32) × (Nat → Int32) × (Nat → Int32) × (Nat → Int32) × (Nat → Int32)) → Prop, F = fun q => ∀ (H : Heap) (locs : List Loc) (ls : Array Slot), va_P D vwCl [(a_p0, .inr (2, [.ref a_p0_first, .ref a_p0_second, .ref a_p0_chosen, .ref a_p0_there, .ref a_p0_back, .ref a_p0_uses, .ref a_p0_partnerUses, .long g_p0_firstSet, .long g_p0_secondSet, .int g_p0_size, .int q.2.1, .int g_p0_paired])), (a_p0_first, .inl (cI, 7, .inl g_p0_first)), (a_p0_second, .inl (cI, 7, .inl g_p0_second)), (a_p0_chosen, .inl (cI, 7, .inl q.2.2.1)), (a_p0_there, .inl (cI, 81, .inl q.2.2.2.1)), (a_p0_back, .inl (cI, 81, .inl q.2.2.2.2.1)), (a_p0_uses, .inl (cI, 81, .inl q.2.2.2.2.2.1)), (a_p0_partnerUses, .inl (cI, 81, .inl q.2.2.2.2.2.2))] H → va_D A [(a_p0, .inr (2, [.ref a_p0_first, .ref a_p0_second, .ref a_p0_chosen, .ref a_p0_there, .ref a_p0_back, .ref a_p0_uses, .ref a_p0_partnerUses, .long g_p0_firstSet, .long g_p0_secondSet, .int g_p0_size, .int q.2.1, .int g_p0_paired])), (a_p0_first, .inl (cI, 7, .inl g_p0_first)), (a_p0_second, .inl (cI, 7, .inl g_p0_second)), (a_p0_chosen, .inl (cI, 7, .inl q.2.2.1)), (a_p0_there, .inl (cI, 81, .inl q.2.2.2.1)), (a_p0_back, .inl (cI, 81, .inl q.2.2.2.2.1)), (a_p0_uses, .inl (cI, 81, .inl q.2.2.2.2.2.1)), (a_p0_partnerUses, .inl (cI, 81, .inl q.2.2.2.2.2.2))] → va_S A s.heap H locs → lv_has ls 4 [(0, .ref a_p0), (1, .int x1), (2, .int q.1)] → W p l e (rmX2_pairFrom (d + 1)) s m ([.ref a_p0, .int q1] : List Value).toArray below meth c H locs 0 0 (MQ below (cQi D r0 A [(a_p0, .inr (2, [.ref a_p0_first, .ref a_p0_second, .ref a_p0_chosen, .ref a_p0_there, .ref a_p0_back, .ref a_p0_uses, .ref a_p0_partnerUses, .long g_p0_firstSet, .long g_p0_secondSet, .int g_p0_size, .int v_p0_taken, .int g_p0_paired])), (a_p0_first, .inl (cI, 7, .inl g_p0_first)), (a_p0_second, .inl (cI, 7, .inl g_p0_second)), (a_p0_chosen, .inl (cI, 7, .inl v_p0_chosen)), (a_p0_there, .inl (cI, 81, .inl v_p0_there)), (a_p0_back, .inl (cI, 81, .inl v_p0_back)), (a_p0_uses, .inl (cI, 81, .inl v_p0_uses)), (a_p0_partnerUses, .inl (cI, 81, .inl v_p0_partnerUses))]) ([.ref a_p0, .int q1] : List Value).toArray s 0 0 A) (F0 m 18 ls []) := ⟨_, rfl⟩
    have key : ∀ (q : Int32 × Int32 × (Nat → Int32) × (Nat → Int32) × (Nat → Int32) × (Nat → Int32) × (Nat → Int32)) (t : Int32 × Int32 × (Nat → Int32) × (Nat → Int32) × (Nat → Int32) × (Nat → Int32) × (Nat → Int32)), run (sX2_pairFrom_18 rec x1 g_p0_size g_p0_first g_p0_second) q = some t → (fun z => z = (r0, v_p0_taken, v_p0_chosen, v_p0_there, v_p0_back, v_p0_uses, v_p0_partnerUses)) t → F18 q := by
      refine loop_rule (sX2_pairFrom_18 rec x1 g_p0_size g_p0_first g_p0_second) F18 (fun z => z = (r0, v_p0_taken, v_p0_chosen, v_p0_there, v_p0_back, v_p0_uses, v_p0_partnerUses)) ?_
      intro q t hf hF
      have hF : (Sum.elim F18 (fun z => z = (r0, v_p0_taken, v_p0_chosen, v_p0_there, v_p0_back, v_p0_uses, v_p0_partnerUses))) t := hF
      have w67 : ∀ (x2 : Int32) (g_p0_taken : Int32) (g_p0_chosen : Nat → Int32) (g_p0_there : Nat → Int32) (g_p0_back : Nat → Int32) (g_p0_uses : Nat → Int32) (g_p0_partnerUses : Nat → Int32) (t : (Int32 × Int32 × (Nat → Int32) × (Nat → Int32) × (Nat → Int32) × (Nat → Int32) × (Nat → Int32)) ⊕ (Int32 × Int32 × (Nat → Int32) × (Nat → Int32) × (Nat → Int32) × (Nat → Int32) × (Nat → Int32))) (H : Heap) (locs : List Loc) (ls : Array Slot), bX2_pairFrom_67 rec x1 x2 g_p0_size g_p0_taken g_p0_first g_p0_second g_p0_chosen g_p0_there g_p0_back g_p0_uses g_p0_partnerUses = some t → (Sum.elim F18 (fun z => z = (r0, v_p0_taken, v_p0_chosen, v_p0_there, v_p0_back, v_p0_uses, v_p0_partnerUses))) t → va_P D vwCl [(a_p0, .inr (2, [.ref a_p0_first, .ref a_p0_second, .ref a_p0_chosen, .ref a_p0_there, .ref a_p0_back, .ref a_p0_uses, .ref a_p0_partnerUses, .long g_p0_firstSet, .long g_p0_secondSet, .int g_p0_size, .int g_p0_taken, .int g_p0_paired])), (a_p0_first, .inl (cI, 7, .inl g_p0_first)), (a_p0_second, .inl (cI, 7, .inl g_p0_second)), (a_p0_chosen, .inl (cI, 7, .inl g_p0_chosen)), (a_p0_there, .inl (cI, 81, .inl g_p0_there)), (a_p0_back, .inl (cI, 81, .inl g_p0_back)), (a_p0_uses, .inl (cI, 81, .inl g_p0_uses)), (a_p0_partnerUses, .inl (cI, 81, .inl g_p0_partnerUses))] H → va_D A [(a_p0, .inr (2, [.ref a_p0_first, .ref a_p0_second, .ref a_p0_chosen, .ref a_p0_there, .ref a_p0_back, .ref a_p0_uses, .ref a_p0_partnerUses, .long g_p0_firstSet, .long g_p0_secondSet, .int g_p0_size, .int g_p0_taken, .int g_p0_paired])), (a_p0_first, .inl (cI, 7, .inl g_p0_first)), (a_p0_second, .inl (cI, 7, .inl g_p0_second)), (a_p0_chosen, .inl (cI, 7, .inl g_p0_chosen)), (a_p0_there, .inl (cI, 81, .inl g_p0_there)), (a_p0_back, .inl (cI, 81, .inl g_p0_back)), (a_p0_uses, .inl (cI, 81, .inl g_p0_uses)), (a_p0_partnerUses, .inl (cI, 81, .inl g_p0_partnerUses))] → va_S A s.heap H locs → lv_has ls 4 [(0, .ref a_p0), (1, .int x1), (2, .int x2)] → W p l e (rmX2_pairFrom (d + 1)) s m ([.ref a_p0, .int q1] : List Value).toArray below meth c H locs 0 0 (MQ below (cQi D r0 A [(a_p0, .inr (2, [.ref a_p0_first, .ref a_p0_second, .ref a_p0_chosen, .ref a_p0_there, .ref a_p0_back, .ref a_p0_uses, .ref a_p0_partnerUses, .long g_p0_firstSet, .long g_p0_secondSet, .int g_p0_size, .int v_p0_taken, .int g_p0_paired])), (a_p0_first, .inl (cI, 7, .inl g_p0_first)), (a_p0_second, .inl (cI, 7, .inl g_p0_second)), (a_p0_chosen, .inl (cI, 7, .inl v_p0_chosen)), (a_p0_there, .inl (cI, 81, .inl v_p0_there)), (a_p0_back, .inl (cI, 81, .inl v_p0_back)), (a_p0_uses, .inl (cI, 81, .inl v_p0_uses)), (a_p0_partnerUses, .inl (cI, 81, .inl v_p0_partnerUses))]) ([.ref a_p0, .int q1] : List Value).toArray s 0 0 A) (F0 m 67 ls []) := by
        intro x2 g_p0_taken g_p0_chosen g_p0_there g_p0_back g_p0_uses g_p0_partnerUses t H locs ls hf hF hP hD hS hl
        unfold bX2_pairFrom_67 at hf
        obtain ⟨y1, ey1⟩ : ∃ z : Int32, z = x2 + (1 : Int32) := ⟨_, rfl⟩
        have hf := lt_some hf y1 ey1
        refine lv_iinc (v := y1) (lv' := [(2, .int y1), (0, .ref a_p0), (1, .int x1)]) hx hb dX2_pairFrom_67 hl (k := 2) rfl (by rw [ey1]; rfl) (by decide) rfl (fun ls hl => ?_)
        refine lv_goto (tgt := 18) hx hb dX2_pairFrom_70 (by decide) ?_
        cases hf
        exact ((congrFun eF18 _).mp hF) H locs ls hP hD hS (lv_sub hl [1, 2, 0] rfl)
      have w61 : ∀ (x2 : Int32) (x3 : Int32) (g_p0_taken : Int32) (g_p0_chosen : Nat → Int32) (g_p0_there : Nat → Int32) (g_p0_back : Nat → Int32) (g_p0_uses : Nat → Int32) (g_p0_partnerUses : Nat → Int32) (t : (Int32 × Int32 × (Nat → Int32) × (Nat → Int32) × (Nat → Int32) × (Nat → Int32) × (Nat → Int32)) ⊕ (Int32 × Int32 × (Nat → Int32) × (Nat → Int32) × (Nat → Int32) × (Nat → Int32) × (Nat → Int32))) (H : Heap) (locs : List Loc) (ls : Array Slot), bX2_pairFrom_61 rec x1 x2 x3 g_p0_size g_p0_taken g_p0_first g_p0_second g_p0_chosen g_p0_there g_p0_back g_p0_uses g_p0_partnerUses = some t → (Sum.elim F18 (fun z => z = (r0, v_p0_taken, v_p0_chosen, v_p0_there, v_p0_back, v_p0_uses, v_p0_partnerUses))) t → va_P D vwCl [(a_p0, .inr (2, [.ref a_p0_first, .ref a_p0_second, .ref a_p0_chosen, .ref a_p0_there, .ref a_p0_back, .ref a_p0_uses, .ref a_p0_partnerUses, .long g_p0_firstSet, .long g_p0_secondSet, .int g_p0_size, .int g_p0_taken, .int g_p0_paired])), (a_p0_first, .inl (cI, 7, .inl g_p0_first)), (a_p0_second, .inl (cI, 7, .inl g_p0_second)), (a_p0_chosen, .inl (cI, 7, .inl g_p0_chosen)), (a_p0_there, .inl (cI, 81, .inl g_p0_there)), (a_p0_back, .inl (cI, 81, .inl g_p0_back)), (a_p0_uses, .inl (cI, 81, .inl g_p0_uses)), (a_p0_partnerUses, .inl (cI, 81, .inl g_p0_partnerUses))] H → va_D A [(a_p0, .inr (2, [.ref a_p0_first, .ref a_p0_second, .ref a_p0_chosen, .ref a_p0_there, .ref a_p0_back, .ref a_p0_uses, .ref a_p0_partnerUses, .long g_p0_firstSet, .long g_p0_secondSet, .int g_p0_size, .int g_p0_taken, .int g_p0_paired])), (a_p0_first, .inl (cI, 7, .inl g_p0_first)), (a_p0_second, .inl (cI, 7, .inl g_p0_second)), (a_p0_chosen, .inl (cI, 7, .inl g_p0_chosen)), (a_p0_there, .inl (cI, 81, .inl g_p0_there)), (a_p0_back, .inl (cI, 81, .inl g_p0_back)), (a_p0_uses, .inl (cI, 81, .inl g_p0_uses)), (a_p0_partnerUses, .inl (cI, 81, .inl g_p0_partnerUses))] → va_S A s.heap H locs → lv_has ls 4 [(0, .ref a_p0), (1, .int x1), (2, .int x2), (3, .int x3)] → W p l e (rmX2_pairFrom (d + 1)) s m ([.ref a_p0, .int q1] : List Value).toArray below meth c H locs 0 0 (MQ below (cQi D r0 A [(a_p0, .inr (2, [.ref a_p0_first, .ref a_p0_second, .ref a_p0_chosen, .ref a_p0_there, .ref a_p0_back, .ref a_p0_uses, .ref a_p0_partnerUses, .long g_p0_firstSet, .long g_p0_secondSet, .int g_p0_size, .int v_p0_taken, .int g_p0_paired])), (a_p0_first, .inl (cI, 7, .inl g_p0_first)), (a_p0_second, .inl (cI, 7, .inl g_p0_second)), (a_p0_chosen, .inl (cI, 7, .inl v_p0_chosen)), (a_p0_there, .inl (cI, 81, .inl v_p0_there)), (a_p0_back, .inl (cI, 81, .inl v_p0_back)), (a_p0_uses, .inl (cI, 81, .inl v_p0_uses)), (a_p0_partnerUses, .inl (cI, 81, .inl v_p0_partnerUses))]) ([.ref a_p0, .int q1] : List Value).toArray s 0 0 A) (F0 m 61 ls []) := by
        intro x2 x3 g_p0_taken g_p0_chosen g_p0_there g_p0_back g_p0_uses g_p0_partnerUses t H locs ls hf hF hP hD hS hl
        unfold bX2_pairFrom_61 at hf
        refine lv_aload_n hx hb dX2_pairFrom_61 rfl (lv_at hl 0 rfl) ?_
        refine lv_iload_n hx hb dX2_pairFrom_62 rfl (lv_at hl 1 rfl) ?_
        refine lv_iload_n hx hb dX2_pairFrom_63 rfl (lv_at hl 3 rfl) ?_
        obtain ⟨u2, hu2, hf⟩ := bd_some hf
        refine caVV (rest := []) (As := [.int x1, .int x3]) (wr := [(a_p0_there, .inl (cI, 81, .inl g_p0_there)), (a_p0_back, .inl (cI, 81, .inl g_p0_back))]) (wo := [(a_p0, .inr (2, [.ref a_p0_first, .ref a_p0_second, .ref a_p0_chosen, .ref a_p0_there, .ref a_p0_back, .ref a_p0_uses, .ref a_p0_partnerUses, .long g_p0_firstSet, .long g_p0_secondSet, .int g_p0_size, .int u2.1, .int g_p0_paired])), (a_p0_first, .inl (cI, 7, .inl g_p0_first)), (a_p0_second, .inl (cI, 7, .inl g_p0_second)), (a_p0_chosen, .inl (cI, 7, .inl g_p0_chosen)), (a_p0_there, .inl (cI, 81, .inl g_p0_there)), (a_p0_back, .inl (cI, 81, .inl g_p0_back)), (a_p0_uses, .inl (cI, 81, .inl u2.2.1)), (a_p0_partnerUses, .inl (cI, 81, .inl u2.2.2))]) ⟨hx, hb, hml, hown, hts⟩ hN hP hD hS hA (cX2_part_ct l D cI cL cC cZ a_p0 a_p0_first a_p0_second a_p0_chosen a_p0_there a_p0_back a_p0_uses a_p0_partnerUses g_p0_firstSet g_p0_secondSet g_p0_size g_p0_taken g_p0_paired g_p0_first g_p0_second g_p0_chosen g_p0_uses g_p0_partnerUses x1 x3 u2.1 u2.2.1 u2.2.2 hu2) z1 0 2 rfl rfl [0, 1, 2, 3, 6, 7] [4, 5] [2, 3, 4, 5, 0, 1, 6, 7] rfl (by decide) rfl (by decide) (by decide) rfl (by decide) rfl hl.1 rfl (Nat.le_of_ble_eq_true rfl) dX2_pairFrom_64 ⟨Nat.zero_le _, Nat.zero_le _⟩ (fun H locs hP hD hS => ?_)
        exact w67 x2 u2.1 g_p0_chosen g_p0_there g_p0_back u2.2.1 u2.2.2 _ H locs ls hf hF hP hD hS (lv_sub hl [0, 1, 2] rfl)
      rw [eF18]
      obtain ⟨x2, g_p0_taken, g_p0_chosen, g_p0_there, g_p0_back, g_p0_uses, g_p0_partnerUses⟩ := q
      intro H locs ls hP hD hS hl
      have hP : va_P D vwCl [(a_p0, .inr (2, [.ref a_p0_first, .ref a_p0_second, .ref a_p0_chosen, .ref a_p0_there, .ref a_p0_back, .ref a_p0_uses, .ref a_p0_partnerUses, .long g_p0_firstSet, .long g_p0_secondSet, .int g_p0_size, .int g_p0_taken, .int g_p0_paired])), (a_p0_first, .inl (cI, 7, .inl g_p0_first)), (a_p0_second, .inl (cI, 7, .inl g_p0_second)), (a_p0_chosen, .inl (cI, 7, .inl g_p0_chosen)), (a_p0_there, .inl (cI, 81, .inl g_p0_there)), (a_p0_back, .inl (cI, 81, .inl g_p0_back)), (a_p0_uses, .inl (cI, 81, .inl g_p0_uses)), (a_p0_partnerUses, .inl (cI, 81, .inl g_p0_partnerUses))] H := hP
      have hD : va_D A [(a_p0, .inr (2, [.ref a_p0_first, .ref a_p0_second, .ref a_p0_chosen, .ref a_p0_there, .ref a_p0_back, .ref a_p0_uses, .ref a_p0_partnerUses, .long g_p0_firstSet, .long g_p0_secondSet, .int g_p0_size, .int g_p0_taken, .int g_p0_paired])), (a_p0_first, .inl (cI, 7, .inl g_p0_first)), (a_p0_second, .inl (cI, 7, .inl g_p0_second)), (a_p0_chosen, .inl (cI, 7, .inl g_p0_chosen)), (a_p0_there, .inl (cI, 81, .inl g_p0_there)), (a_p0_back, .inl (cI, 81, .inl g_p0_back)), (a_p0_uses, .inl (cI, 81, .inl g_p0_uses)), (a_p0_partnerUses, .inl (cI, 81, .inl g_p0_partnerUses))] := hD
      have hl : lv_has ls 4 [(0, .ref a_p0), (1, .int x1), (2, .int x2)] := hl
      have hf : bX2_pairFrom_18 rec x1 g_p0_size g_p0_first g_p0_second x2 g_p0_taken g_p0_chosen g_p0_there g_p0_back g_p0_uses g_p0_partnerUses = some t := hf
      unfold bX2_pairFrom_18 at hf
      refine lv_iload_n hx hb dX2_pairFrom_18 rfl (lv_at hl 2 rfl) ?_
      refine lv_aload_n hx hb dX2_pairFrom_19 rfl (lv_at hl 0 rfl) ?_
      refine va_get (D := D) (ci := 2) (v := .int g_p0_size) (C := RX2) (T := TX2) (N := 12) hx hb hts z2 hown hN.1 hP 0 rfl rfl 9 (by decide) z3 (fun _ h9 => h9) rfl dX2_pairFrom_20 ?_
      refine lv_icmp_ge (tgt := 73) hx hb dX2_pairFrom_23 (by decide) (fun c3 => ?_) (fun c3 => ?_)
      · have hf := br_pos c3 hf
        refine lv_iconst (v := 0) hx hb dX2_pairFrom_73 (by decide) ?_
        obtain ⟨c4, hf⟩ := gd_some hf
        cases hf
        have hE : ((0 : Int32), g_p0_taken, g_p0_chosen, g_p0_there, g_p0_back, g_p0_uses, g_p0_partnerUses) = (r0, v_p0_taken, v_p0_chosen, v_p0_there, v_p0_back, v_p0_uses, v_p0_partnerUses) := hF
        simp only [Prod.mk.injEq] at hE
        obtain ⟨rfl, rfl, rfl, rfl, rfl, rfl, rfl⟩ := hE
        exact rtZ hx hb hr hlk c4 hP hD hS dX2_pairFrom_74
      · have hf := br_neg c3 hf
        refine lv_aload_n hx hb dX2_pairFrom_26 rfl (lv_at hl 0 rfl) ?_
        refine va_get (D := D) (ci := 2) (v := .int g_p0_taken) (C := RX2) (T := TX2) (N := 12) hx hb hts z2 hown hN.1 hP 0 rfl rfl 10 (by decide) z4 (fun _ h9 => h9) rfl dX2_pairFrom_27 ?_
        refine lv_iload_n hx hb dX2_pairFrom_30 rfl (lv_at hl 2 rfl) ?_
        refine lv_iushr hx hb dX2_pairFrom_31 rfl ?_
        refine lv_iconst (v := 1) hx hb dX2_pairFrom_32 (by decide) ?_
        refine lv_iand hx hb dX2_pairFrom_33 ?_
        refine lv_if_ne (tgt := 67) hx hb dX2_pairFrom_34 (by decide) (fun c5 => ?_) (fun c5 => ?_)
        · have hf := br_neg c5 hf
          exact w67 x2 g_p0_taken g_p0_chosen g_p0_there g_p0_back g_p0_uses g_p0_partnerUses _ H locs ls hf hF hP hD hS (lv_sub hl [0, 1, 2] rfl)
        · have hf := br_pos c5 hf
          refine lv_aload_n hx hb dX2_pairFrom_37 rfl (lv_at hl 0 rfl) ?_
          refine lv_iload_n hx hb dX2_pairFrom_38 rfl (lv_at hl 1 rfl) ?_
          refine lv_iload_n hx hb dX2_pairFrom_39 rfl (lv_at hl 2 rfl) ?_
          obtain ⟨u6, hu6, hf⟩ := bd_some hf
          refine caVI (rest := []) (As := [.int x1, .int x2]) (wr := []) (wo := [(a_p0, .inr (2, [.ref a_p0_first, .ref a_p0_second, .ref a_p0_chosen, .ref a_p0_there, .ref a_p0_back, .ref a_p0_uses, .ref a_p0_partnerUses, .long g_p0_firstSet, .long g_p0_secondSet, .int g_p0_size, .int u6.2.1, .int g_p0_paired])), (a_p0_first, .inl (cI, 7, .inl g_p0_first)), (a_p0_second, .inl (cI, 7, .inl g_p0_second)), (a_p0_chosen, .inl (cI, 7, .inl u6.2.2.1)), (a_p0_there, .inl (cI, 81, .inl u6.2.2.2.1)), (a_p0_back, .inl (cI, 81, .inl u6.2.2.2.2.1)), (a_p0_uses, .inl (cI, 81, .inl u6.2.2.2.2.2.1)), (a_p0_partnerUses, .inl (cI, 81, .inl u6.2.2.2.2.2.2))]) ⟨hx, hb, hml, hown, hts⟩ hN hP hD hS hA (cX2_join_ct l D cI cL cC cZ a_p0 a_p0_first a_p0_second a_p0_chosen a_p0_there a_p0_back a_p0_uses a_p0_partnerUses g_p0_firstSet g_p0_secondSet g_p0_size g_p0_taken g_p0_paired g_p0_first g_p0_second g_p0_chosen g_p0_there g_p0_back g_p0_uses g_p0_partnerUses x1 x2 u6.1 u6.2.1 u6.2.2.1 u6.2.2.2.1 u6.2.2.2.2.1 u6.2.2.2.2.2.1 u6.2.2.2.2.2.2 hu6) z5 0 2 rfl rfl [0, 1, 2, 3, 4, 5, 6, 7] [] [0, 1, 2, 3, 4, 5, 6, 7] rfl (by decide) rfl (by decide) (by decide) rfl (by decide) rfl hl.1 rfl (Nat.le_of_ble_eq_true rfl) dX2_pairFrom_40 ⟨Nat.zero_le _, Nat.zero_le _⟩ (fun H locs hP hD hS => ?_)
          refine lv_istore_n (lv' := [(3, .int u6.1), (0, .ref a_p0), (1, .int x1), (2, .int x2)]) hx hb dX2_pairFrom_43 rfl hl (by decide) rfl (fun ls hl => ?_)
          refine lv_iload_n hx hb dX2_pairFrom_44 rfl (lv_at hl 0 rfl) ?_
          refine lv_iload_n hx hb dX2_pairFrom_45 rfl (lv_at hl 2 rfl) ?_
          refine lv_icmp_le (tgt := 61) hx hb dX2_pairFrom_46 (by decide) (fun c7 => ?_) (fun c7 => ?_)
          · have hf := br_pos c7 hf
            exact w61 x2 u6.1 u6.2.1 u6.2.2.1 u6.2.2.2.1 u6.2.2.2.2.1 u6.2.2.2.2.2.1 u6.2.2.2.2.2.2 _ H locs ls hf hF hP hD hS (lv_sub hl [1, 2, 3, 0] rfl)
          · have hf := br_neg c7 hf
            refine lv_aload_n hx hb dX2_pairFrom_49 rfl (lv_at hl 1 rfl) ?_
            refine lv_iload_n hx hb dX2_pairFrom_50 rfl (lv_at hl 2 rfl) ?_
            refine lv_iconst (v := 1) hx hb dX2_pairFrom_51 (by decide) ?_
            refine lv_iadd hx hb dX2_pairFrom_52 ?_
            obtain ⟨u8, hu8, hf⟩ := bd_some hf
            refine caSI (rest := []) (As := [.ref a_p0, .int (x1 + (1 : Int32))]) (wr := []) (wo := [(a_p0, .inr (2, [.ref a_p0_first, .ref a_p0_second, .ref a_p0_chosen, .ref a_p0_there, .ref a_p0_back, .ref a_p0_uses, .ref a_p0_partnerUses, .long g_p0_firstSet, .long g_p0_secondSet, .int g_p0_size, .int u8.2.1, .int g_p0_paired])), (a_p0_first, .inl (cI, 7, .inl g_p0_first)), (a_p0_second, .inl (cI, 7, .inl g_p0_second)), (a_p0_chosen, .inl (cI, 7, .inl u8.2.2.1)), (a_p0_there, .inl (cI, 81, .inl u8.2.2.2.1)), (a_p0_back, .inl (cI, 81, .inl u8.2.2.2.2.1)), (a_p0_uses, .inl (cI, 81, .inl u8.2.2.2.2.2.1)), (a_p0_partnerUses, .inl (cI, 81, .inl u8.2.2.2.2.2.2))]) ⟨hx, hb, hml, hown, hts⟩ hN hP hD hS hA (hrec a_p0 a_p0_first a_p0_second a_p0_chosen a_p0_there a_p0_back a_p0_uses a_p0_partnerUses g_p0_firstSet g_p0_secondSet g_p0_size u6.2.1 g_p0_paired g_p0_first g_p0_second u6.2.2.1 u6.2.2.2.1 u6.2.2.2.2.1 u6.2.2.2.2.2.1 u6.2.2.2.2.2.2 (x1 + (1 : Int32)) u8.1 u8.2.1 u8.2.2.1 u8.2.2.2.1 u8.2.2.2.2.1 u8.2.2.2.2.2.1 u8.2.2.2.2.2.2 hu8) z6 [0, 1, 2, 3, 4, 5, 6, 7] [] [0, 1, 2, 3, 4, 5, 6, 7] rfl (by decide) rfl (by decide) (by decide) rfl (by decide) rfl hl.1 rfl (Nat.le_of_ble_eq_true rfl) dX2_pairFrom_53 ⟨Nat.zero_le _, Nat.zero_le _⟩ (fun H locs hP hD hS => ?_)
            refine lv_if_eq (tgt := 61) hx hb dX2_pairFrom_56 (by decide) (fun c9 => ?_) (fun c9 => ?_)
            · have hf := br_pos c9 hf
              exact w61 x2 u6.1 u8.2.1 u8.2.2.1 u8.2.2.2.1 u8.2.2.2.2.1 u8.2.2.2.2.2.1 u8.2.2.2.2.2.2 _ H locs ls hf hF hP hD hS (lv_sub hl [1, 2, 3, 0] rfl)
            · have hf := br_neg c9 hf
              refine lv_iconst (v := 1) hx hb dX2_pairFrom_59 (by decide) ?_
              obtain ⟨c10, hf⟩ := gd_some hf
              cases hf
              have hE : ((1 : Int32), u8.2.1, u8.2.2.1, u8.2.2.2.1, u8.2.2.2.2.1, u8.2.2.2.2.2.1, u8.2.2.2.2.2.2) = (r0, v_p0_taken, v_p0_chosen, v_p0_there, v_p0_back, v_p0_uses, v_p0_partnerUses) := hF
              simp only [Prod.mk.injEq] at hE
              obtain ⟨rfl, rfl, rfl, rfl, rfl, rfl, rfl⟩ := hE
              exact rtZ hx hb hr hlk c10 hP hD hS dX2_pairFrom_60
    intro x2 g_p0_taken g_p0_chosen g_p0_there g_p0_back g_p0_uses g_p0_partnerUses t H locs ls hf hF hP hD hS hl
    exact ((congrFun eF18 _).mp (key ((x2, g_p0_taken, g_p0_chosen, g_p0_there, g_p0_back, g_p0_uses, g_p0_partnerUses)) t hf hF)) H locs ls hP hD hS hl
  unfold fX2_pairFrom_s at hf
  obtain ⟨H, eH⟩ : ∃ z, z = s.heap := ⟨_, rfl⟩
  obtain ⟨locs, eL⟩ : ∃ z : List Loc, z = [] := ⟨_, rfl⟩
  have hP : va_P D vwCl [(a_p0, .inr (2, [.ref a_p0_first, .ref a_p0_second, .ref a_p0_chosen, .ref a_p0_there, .ref a_p0_back, .ref a_p0_uses, .ref a_p0_partnerUses, .long g_p0_firstSet, .long g_p0_secondSet, .int g_p0_size, .int g_p0_taken, .int g_p0_paired])), (a_p0_first, .inl (cI, 7, .inl g_p0_first)), (a_p0_second, .inl (cI, 7, .inl g_p0_second)), (a_p0_chosen, .inl (cI, 7, .inl g_p0_chosen)), (a_p0_there, .inl (cI, 81, .inl g_p0_there)), (a_p0_back, .inl (cI, 81, .inl g_p0_back)), (a_p0_uses, .inl (cI, 81, .inl g_p0_uses)), (a_p0_partnerUses, .inl (cI, 81, .inl g_p0_partnerUses))] H := by rw [eH]; exact hP
  have hS : va_S A s.heap H locs := by rw [eH, eL]; exact hS
  suffices hG : W p l e (rmX2_pairFrom (d + 1)) s m ([.ref a_p0, .int q1] : List Value).toArray below meth c H locs 0 0 (MQ below (cQi D r0 A [(a_p0, .inr (2, [.ref a_p0_first, .ref a_p0_second, .ref a_p0_chosen, .ref a_p0_there, .ref a_p0_back, .ref a_p0_uses, .ref a_p0_partnerUses, .long g_p0_firstSet, .long g_p0_secondSet, .int g_p0_size, .int v_p0_taken, .int g_p0_paired])), (a_p0_first, .inl (cI, 7, .inl g_p0_first)), (a_p0_second, .inl (cI, 7, .inl g_p0_second)), (a_p0_chosen, .inl (cI, 7, .inl v_p0_chosen)), (a_p0_there, .inl (cI, 81, .inl v_p0_there)), (a_p0_back, .inl (cI, 81, .inl v_p0_back)), (a_p0_uses, .inl (cI, 81, .inl v_p0_uses)), (a_p0_partnerUses, .inl (cI, 81, .inl v_p0_partnerUses))]) ([.ref a_p0, .int q1] : List Value).toArray s 0 0 A) (F0 m 0 ls []) by rw [eH, eL] at hG; exact hG
  refine lv_iload_n hx hb dX2_pairFrom_0 rfl (lv_at hl 1 rfl) ?_
  refine lv_aload_n hx hb dX2_pairFrom_1 rfl (lv_at hl 0 rfl) ?_
  refine va_get (D := D) (ci := 2) (v := .int g_p0_size) (C := RX2) (T := TX2) (N := 12) hx hb hts z2 hown hN.1 hP 0 rfl rfl 9 (by decide) z3 (fun _ h9 => h9) rfl dX2_pairFrom_2 ?_
  refine lv_icmp_ge (tgt := 14) hx hb dX2_pairFrom_5 (by decide) (fun c11 => ?_) (fun c11 => ?_)
  · have hf := br_pos c11 hf
    refine lv_iconst (v := 1) hx hb dX2_pairFrom_14 (by decide) ?_
    obtain ⟨c12, hf⟩ := gd_some hf
    have hE : ((1 : Int32), g_p0_taken, g_p0_chosen, g_p0_there, g_p0_back, g_p0_uses, g_p0_partnerUses) = (r0, v_p0_taken, v_p0_chosen, v_p0_there, v_p0_back, v_p0_uses, v_p0_partnerUses) := Option.some.inj hf
    simp only [Prod.mk.injEq] at hE
    obtain ⟨rfl, rfl, rfl, rfl, rfl, rfl, rfl⟩ := hE
    exact rtZ hx hb hr hlk c12 hP hD hS dX2_pairFrom_15
  · have hf := br_neg c11 hf
    refine lv_iload_n hx hb dX2_pairFrom_8 rfl (lv_at hl 1 rfl) ?_
    refine lv_bipush (v := 7) hx hb dX2_pairFrom_9 (by decide) ?_
    refine lv_icmp_lt (tgt := 16) hx hb dX2_pairFrom_11 (by decide) (fun c13 => ?_) (fun c13 => ?_)
    · have hf := br_pos c13 hf
      refine lv_iconst (v := 0) hx hb dX2_pairFrom_16 (by decide) ?_
      refine lv_istore_n (lv' := [(2, .int (0 : Int32)), (0, .ref a_p0), (1, .int q1)]) hx hb dX2_pairFrom_17 rfl hl (by decide) rfl (fun ls hl => ?_)
      exact w18 q1 g_p0_size g_p0_first g_p0_second (0 : Int32) g_p0_taken g_p0_chosen g_p0_there g_p0_back g_p0_uses g_p0_partnerUses (r0, v_p0_taken, v_p0_chosen, v_p0_there, v_p0_back, v_p0_uses, v_p0_partnerUses) H locs ls hf rfl hP hD hS (lv_sub hl [1, 2, 0] rfl)
    · have hf := br_neg c13 hf
      refine lv_iconst (v := 1) hx hb dX2_pairFrom_14 (by decide) ?_
      obtain ⟨c14, hf⟩ := gd_some hf
      have hE : ((1 : Int32), g_p0_taken, g_p0_chosen, g_p0_there, g_p0_back, g_p0_uses, g_p0_partnerUses) = (r0, v_p0_taken, v_p0_chosen, v_p0_there, v_p0_back, v_p0_uses, v_p0_partnerUses) := Option.some.inj hf
      simp only [Prod.mk.injEq] at hE
      obtain ⟨rfl, rfl, rfl, rfl, rfl, rfl, rfl⟩ := hE
      exact rtZ hx hb hr hlk c14 hP hD hS dX2_pairFrom_15
theorem cX2_pairFrom_ct (l : Launch) (D : va_G) (cI cL cC cZ : ClassId) : ∀ (d : Nat) (a_p0 a_p0_first a_p0_second a_p0_chosen a_p0_there a_p0_back a_p0_uses a_p0_partnerUses : Nat) (g_p0_firstSet : Int64) (g_p0_secondSet : Int64) (g_p0_size : Int32) (g_p0_taken : Int32) (g_p0_paired : Int32) (g_p0_first : Nat → Int32) (g_p0_second : Nat → Int32) (g_p0_chosen : Nat → Int32) (g_p0_there : Nat → Int32) (g_p0_back : Nat → Int32) (g_p0_uses : Nat → Int32) (g_p0_partnerUses : Nat → Int32) (q1 : Int32) (r0 : Int32) (v_p0_taken : Int32) (v_p0_chosen : Nat → Int32) (v_p0_there : Nat → Int32) (v_p0_back : Nat → Int32) (v_p0_uses : Nat → Int32) (v_p0_partnerUses : Nat → Int32), fX2_pairFrom d q1 g_p0_size g_p0_taken g_p0_first g_p0_second g_p0_chosen g_p0_there g_p0_back g_p0_uses g_p0_partnerUses = some ((r0, v_p0_taken, v_p0_chosen, v_p0_there, v_p0_back, v_p0_uses, v_p0_partnerUses)) → CtI l yX2_pairFrom wsX2_pairFrom (rmX2_pairFrom d) D (tyz cI cL cC cZ) [.ref a_p0, .int q1] [(a_p0, .inr (2, [.ref a_p0_first, .ref a_p0_second, .ref a_p0_chosen, .ref a_p0_there, .ref a_p0_back, .ref a_p0_uses, .ref a_p0_partnerUses, .long g_p0_firstSet, .long g_p0_secondSet, .int g_p0_size, .int g_p0_taken, .int g_p0_paired])), (a_p0_first, .inl (cI, 7, .inl g_p0_first)), (a_p0_second, .inl (cI, 7, .inl g_p0_second)), (a_p0_chosen, .inl (cI, 7, .inl g_p0_chosen)), (a_p0_there, .inl (cI, 81, .inl g_p0_there)), (a_p0_back, .inl (cI, 81, .inl g_p0_back)), (a_p0_uses, .inl (cI, 81, .inl g_p0_uses)), (a_p0_partnerUses, .inl (cI, 81, .inl g_p0_partnerUses))] [(a_p0, .inr (2, [.ref a_p0_first, .ref a_p0_second, .ref a_p0_chosen, .ref a_p0_there, .ref a_p0_back, .ref a_p0_uses, .ref a_p0_partnerUses, .long g_p0_firstSet, .long g_p0_secondSet, .int g_p0_size, .int v_p0_taken, .int g_p0_paired])), (a_p0_first, .inl (cI, 7, .inl g_p0_first)), (a_p0_second, .inl (cI, 7, .inl g_p0_second)), (a_p0_chosen, .inl (cI, 7, .inl v_p0_chosen)), (a_p0_there, .inl (cI, 81, .inl v_p0_there)), (a_p0_back, .inl (cI, 81, .inl v_p0_back)), (a_p0_uses, .inl (cI, 81, .inl v_p0_uses)), (a_p0_partnerUses, .inl (cI, 81, .inl v_p0_partnerUses))] r0 := by
  intro d
  induction d with
  | zero => intro i0 i1 i2 i3 i4 i5 i6 i7 i8 i9 i10 i11 i12 i13 i14 i15 i16 i17 i18 i19 i20 i21 i22 i23 i24 i25 i26 i27 hf; cases hf
  | succ d ih => intro i0 i1 i2 i3 i4 i5 i6 i7 i8 i9 i10 i11 i12 i13 i14 i15 i16 i17 i18 i19 i20 i21 i22 i23 i24 i25 i26 i27 hf; exact cX2_pairFrom_st l D cI cL cC cZ (fX2_pairFrom d) d ih i0 i1 i2 i3 i4 i5 i6 i7 i8 i9 i10 i11 i12 i13 i14 i15 i16 i17 i18 i19 i20 i21 i22 i23 i24 i25 i26 i27 hf
abbrev rmX2_seek : Room := { frames := 11, cells := 0, slots := 0, locals := 543 }
noncomputable def bX2_seek_18 (x1 : Int64) (x3 : Int64) (g_firstSet : Int64) (g_secondSet : Int64) (g_size : Int32) (g_taken : Int32) (g_paired : Int32) (g_first : Nat → Int32) (g_second : Nat → Int32) (g_chosen : Nat → Int32) (g_there : Nat → Int32) (g_back : Nat → Int32) (g_uses : Nat → Int32) (g_partnerUses : Nat → Int32) : Option (Int32 × Int64 × Int64 × Int32 × Int32 × Int32 × (Nat → Int32) × (Nat → Int32) × (Nat → Int32) × (Nat → Int32) × (Nat → Int32) × (Nat → Int32) × (Nat → Int32)) := bd (fX7_listNumbers x1 7 g_first) (fun u1 => bd (fX7_listNumbers x3 7 g_second) (fun u2 => lt_ (if u2.1 < u1.1 then u2.1 else u1.1) (fun y3 => bd (fJ7_fill_53178 (0 : Int32) 81 g_uses) (fun u4 => bd (fJ7_fill_53178 (0 : Int32) 81 g_partnerUses) (fun u5 => bd (fX2_pairFrom 8 (0 : Int32) y3 (0 : Int32) u1.2 u2.2 g_chosen g_there g_back u4 u5) (fun u6 => gd (u6.1 = 0 ∨ u6.1 = 1) (gd (u6.1 = 0 ∨ u6.1 = 1) (some ((u6.1, x1, x3, y3, u6.2.1, u6.1, u1.2, u2.2, u6.2.2.1, u6.2.2.2.1, u6.2.2.2.2.1, u6.2.2.2.2.2.1, u6.2.2.2.2.2.2))))))))))
noncomputable def fX2_seek (q1 : Int64) (q3 : Int64) (g_firstSet : Int64) (g_secondSet : Int64) (g_size : Int32) (g_taken : Int32) (g_paired : Int32) (g_first : Nat → Int32) (g_second : Nat → Int32) (g_chosen : Nat → Int32) (g_there : Nat → Int32) (g_back : Nat → Int32) (g_uses : Nat → Int32) (g_partnerUses : Nat → Int32) : Option (Int32 × Int64 × Int64 × Int32 × Int32 × Int32 × (Nat → Int32) × (Nat → Int32) × (Nat → Int32) × (Nat → Int32) × (Nat → Int32) × (Nat → Int32) × (Nat → Int32)) := br ((lg_cmp q1 g_firstSet) = 0) (br ((lg_cmp q3 g_secondSet) = 0) (gd (g_paired = 0 ∨ g_paired = 1) (some ((g_paired, g_firstSet, g_secondSet, g_size, g_taken, g_paired, g_first, g_second, g_chosen, g_there, g_back, g_uses, g_partnerUses)))) (bX2_seek_18 q1 q3 g_firstSet g_secondSet g_size g_taken g_paired g_first g_second g_chosen g_there g_back g_uses g_partnerUses)) (bX2_seek_18 q1 q3 g_firstSet g_secondSet g_size g_taken g_paired g_first g_second g_chosen g_there g_back g_uses g_partnerUses)
set_option maxHeartbeats 4000000 in
set_option maxRecDepth 100000 in
theorem cX2_seek_ct (l : Launch) (D : va_G) (cI cL cC cZ : ClassId) (a_this a_first a_second a_chosen a_there a_back a_uses a_partnerUses : Nat) (g_firstSet : Int64) (g_secondSet : Int64) (g_size : Int32) (g_taken : Int32) (g_paired : Int32) (g_first : Nat → Int32) (g_second : Nat → Int32) (g_chosen : Nat → Int32) (g_there : Nat → Int32) (g_back : Nat → Int32) (g_uses : Nat → Int32) (g_partnerUses : Nat → Int32) (q1 : Int64) (q3 : Int64) (r0 : Int32) (v_firstSet : Int64) (v_secondSet : Int64) (v_size : Int32) (v_taken : Int32) (v_paired : Int32) (v_first : Nat → Int32) (v_second : Nat → Int32) (v_chosen : Nat → Int32) (v_there : Nat → Int32) (v_back : Nat → Int32) (v_uses : Nat → Int32) (v_partnerUses : Nat → Int32) (hf : fX2_seek q1 q3 g_firstSet g_secondSet g_size g_taken g_paired g_first g_second g_chosen g_there g_back g_uses g_partnerUses = some ((r0, v_firstSet, v_secondSet, v_size, v_taken, v_paired, v_first, v_second, v_chosen, v_there, v_back, v_uses, v_partnerUses))) : CtI l yX2_seek wsX2_seek rmX2_seek D (tyz cI cL cC cZ) [.ref a_this, .long q1, .long q3] [(a_this, .inr (2, [.ref a_first, .ref a_second, .ref a_chosen, .ref a_there, .ref a_back, .ref a_uses, .ref a_partnerUses, .long g_firstSet, .long g_secondSet, .int g_size, .int g_taken, .int g_paired])), (a_first, .inl (cI, 7, .inl g_first)), (a_second, .inl (cI, 7, .inl g_second)), (a_chosen, .inl (cI, 7, .inl g_chosen)), (a_there, .inl (cI, 81, .inl g_there)), (a_back, .inl (cI, 81, .inl g_back)), (a_uses, .inl (cI, 81, .inl g_uses)), (a_partnerUses, .inl (cI, 81, .inl g_partnerUses))] [(a_this, .inr (2, [.ref a_first, .ref a_second, .ref a_chosen, .ref a_there, .ref a_back, .ref a_uses, .ref a_partnerUses, .long v_firstSet, .long v_secondSet, .int v_size, .int v_taken, .int v_paired])), (a_first, .inl (cI, 7, .inl v_first)), (a_second, .inl (cI, 7, .inl v_second)), (a_chosen, .inl (cI, 7, .inl v_chosen)), (a_there, .inl (cI, 81, .inl v_there)), (a_back, .inl (cI, 81, .inl v_back)), (a_uses, .inl (cI, 81, .inl v_uses)), (a_partnerUses, .inl (cI, 81, .inl v_partnerUses))] r0 := by
  refine CtI.make (cc := cX2_seek) (maxL := 5) (ty := .boolean) (by decide) rfl (Nat.le_of_ble_eq_true rfl) ?_
  intro p e s m below meth c A ls C0 hN hA hP hD hl
  obtain ⟨hx, hb, hr, hml, hown, hts, hlk⟩ := id C0
  have hown : s.vm.findClass RX2 = some m.cls := hown
  have hS : va_S A s.heap s.heap [] := va_S.rf
  have hP : va_P D vwCl [(a_this, .inr (2, [.ref a_first, .ref a_second, .ref a_chosen, .ref a_there, .ref a_back, .ref a_uses, .ref a_partnerUses, .long g_firstSet, .long g_secondSet, .int g_size, .int g_taken, .int g_paired])), (a_first, .inl (cI, 7, .inl g_first)), (a_second, .inl (cI, 7, .inl g_second)), (a_chosen, .inl (cI, 7, .inl g_chosen)), (a_there, .inl (cI, 81, .inl g_there)), (a_back, .inl (cI, 81, .inl g_back)), (a_uses, .inl (cI, 81, .inl g_uses)), (a_partnerUses, .inl (cI, 81, .inl g_partnerUses))] s.heap := hP
  have hD : va_D A [(a_this, .inr (2, [.ref a_first, .ref a_second, .ref a_chosen, .ref a_there, .ref a_back, .ref a_uses, .ref a_partnerUses, .long g_firstSet, .long g_secondSet, .int g_size, .int g_taken, .int g_paired])), (a_first, .inl (cI, 7, .inl g_first)), (a_second, .inl (cI, 7, .inl g_second)), (a_chosen, .inl (cI, 7, .inl g_chosen)), (a_there, .inl (cI, 81, .inl g_there)), (a_back, .inl (cI, 81, .inl g_back)), (a_uses, .inl (cI, 81, .inl g_uses)), (a_partnerUses, .inl (cI, 81, .inl g_partnerUses))] := hD
  have hl : lv_has ls 5 [(0, .ref a_this), (1, .long q1), (3, .long q3)] := hl
  have z1 : ∀ w ∈ u_ws RX2 TX2 12, w ∈ wsX2_seek := by decide +kernel
  have z2 := hts (.fieldLink RX2 33 "LittleSums$PairingSearch" "firstSet" "J") (by decide +kernel)
  have z3 := hts (.fieldLink RX2 37 "LittleSums$PairingSearch" "secondSet" "J") (by decide +kernel)
  have z4 := hts (.fieldLink RX2 9 "LittleSums$PairingSearch" "first" "[I") (by decide +kernel)
  have z5 := va_cnB (R := rmX2_seek) (rm := rmX7_listNumbers) (mc := 0) (ms := 0) 2 hts ggX2_seek_X7_listNumbers rfl rfl rfl (hN.2 (RX2, 40, yX7_listNumbers, "LittleSums") (by decide +kernel)) (hts (.initialized RX7) (by decide +kernel)) (by decide +kernel) ⟨Nat.le_of_ble_eq_true rfl, Nat.le_of_ble_eq_true rfl⟩
  have z6 := hts (.static yX7_listNumbers) (by decide +kernel)
  have z7 := hts (.fieldLink RX2 15 "LittleSums$PairingSearch" "second" "[I") (by decide +kernel)
  have z8 := hts (.methodLink RX2 44 Lib.Math.min.name) (by decide +kernel)
  have z9 := hts (.static Lib.Math.min.name) (by decide +kernel)
  have z10 := hts (.initialized "java/lang/Math") (by decide +kernel)
  have z11 := hts (.code Lib.Math.min.name Lib.Math.min.code 2 (some .int)) (by decide +kernel)
  have z12 := hts (.fieldLink RX2 50 "LittleSums$PairingSearch" "size" "I") (by decide +kernel)
  have z13 := hts (.fieldLink RX2 54 "LittleSums$PairingSearch" "taken" "I") (by decide +kernel)
  have z14 := hts (.fieldLink RX2 27 "LittleSums$PairingSearch" "uses" "[I") (by decide +kernel)
  have z15 := va_cwS (R := rmX2_seek) (rm := rmJ7_fill_53178) (mc := 0) (ms := 0) 2 hts gX2_seek_J7_fill_53178 rfl rfl rfl (by decide +kernel) ⟨Nat.le_of_ble_eq_true rfl, Nat.le_of_ble_eq_true rfl⟩
  have z16 := hts (.fieldLink RX2 30 "LittleSums$PairingSearch" "partnerUses" "[I") (by decide +kernel)
  have z17 := va_cwS (R := rmX2_seek) (rm := (rmX2_pairFrom 8)) (mc := 0) (ms := 0) 2 hts gX2_seek_X2_pairFrom rfl rfl rfl (by decide +kernel) ⟨Nat.le_of_ble_eq_true rfl, Nat.le_of_ble_eq_true rfl⟩
  have z18 := hts (.fieldLink RX2 67 "LittleSums$PairingSearch" "paired" "Z") (by decide +kernel)
  have w18 : ∀ (x1 : Int64) (x3 : Int64) (g_firstSet : Int64) (g_secondSet : Int64) (g_size : Int32) (g_taken : Int32) (g_paired : Int32) (g_first : Nat → Int32) (g_second : Nat → Int32) (g_chosen : Nat → Int32) (g_there : Nat → Int32) (g_back : Nat → Int32) (g_uses : Nat → Int32) (g_partnerUses : Nat → Int32) (H : Heap) (locs : List Loc) (ls : Array Slot), bX2_seek_18 x1 x3 g_firstSet g_secondSet g_size g_taken g_paired g_first g_second g_chosen g_there g_back g_uses g_partnerUses = some ((r0, v_firstSet, v_secondSet, v_size, v_taken, v_paired, v_first, v_second, v_chosen, v_there, v_back, v_uses, v_partnerUses)) → va_P D vwCl [(a_this, .inr (2, [.ref a_first, .ref a_second, .ref a_chosen, .ref a_there, .ref a_back, .ref a_uses, .ref a_partnerUses, .long g_firstSet, .long g_secondSet, .int g_size, .int g_taken, .int g_paired])), (a_first, .inl (cI, 7, .inl g_first)), (a_second, .inl (cI, 7, .inl g_second)), (a_chosen, .inl (cI, 7, .inl g_chosen)), (a_there, .inl (cI, 81, .inl g_there)), (a_back, .inl (cI, 81, .inl g_back)), (a_uses, .inl (cI, 81, .inl g_uses)), (a_partnerUses, .inl (cI, 81, .inl g_partnerUses))] H → va_D A [(a_this, .inr (2, [.ref a_first, .ref a_second, .ref a_chosen, .ref a_there, .ref a_back, .ref a_uses, .ref a_partnerUses, .long g_firstSet, .long g_secondSet, .int g_size, .int g_taken, .int g_paired])), (a_first, .inl (cI, 7, .inl g_first)), (a_second, .inl (cI, 7, .inl g_second)), (a_chosen, .inl (cI, 7, .inl g_chosen)), (a_there, .inl (cI, 81, .inl g_there)), (a_back, .inl (cI, 81, .inl g_back)), (a_uses, .inl (cI, 81, .inl g_uses)), (a_partnerUses, .inl (cI, 81, .inl g_partnerUses))] → va_S A s.heap H locs → lv_has ls 5 [(0, .ref a_this), (1, .long x1), (3, .long x3)] → W p l e rmX2_seek s m ([.ref a_this, .long q1, .long q3] : List Value).toArray below meth c H locs 0 0 (MQ below (cQi D r0 A [(a_this, .inr (2, [.ref a_first, .ref a_second, .ref a_chosen, .ref a_there, .ref a_back, .ref a_uses, .ref a_partnerUses, .long v_firstSet, .long v_secondSet, .int v_size, .int v_taken, .int v_paired])), (a_first, .inl (cI, 7, .inl v_first)), (a_second, .inl (cI, 7, .inl v_second)), (a_chosen, .inl (cI, 7, .inl v_chosen)), (a_there, .inl (cI, 81, .inl v_there)), (a_back, .inl (cI, 81, .inl v_back)), (a_uses, .inl (cI, 81, .inl v_uses)), (a_partnerUses, .inl (cI, 81, .inl v_partnerUses))]) ([.ref a_this, .long q1, .long q3] : List Value).toArray s 0 0 A) (F0 m 18 ls []) := by
    intro x1 x3 g_firstSet g_secondSet g_size g_taken g_paired g_first g_second g_chosen g_there g_back g_uses g_partnerUses H locs ls hf hP hD hS hl
    unfold bX2_seek_18 at hf
    refine lv_aload_n hx hb dX2_seek_18 rfl (lv_at hl 0 rfl) ?_
    refine lv_lload_n hx hb dX2_seek_19 rfl (lv_at hl 1 rfl) ?_
    refine va_put (D := D) (ci := 2) (v := .long x1) (ty := .long) (C := RX2) (T := TX2) (N := 12) hx hb hts z1 tyX2 tyX2_ok nmX2 hown hN.1 hP hD hS 0 rfl rfl 7 (by decide) z2 (fun _ h9 => h9) rfl (by decide +kernel) rfl rfl (Nat.le_of_ble_eq_true rfl) dX2_seek_20 (fun H locs hP hD hS => ?_)
    have hP : va_P D vwCl [(a_this, .inr (2, [.ref a_first, .ref a_second, .ref a_chosen, .ref a_there, .ref a_back, .ref a_uses, .ref a_partnerUses, .long x1, .long g_secondSet, .int g_size, .int g_taken, .int g_paired])), (a_first, .inl (cI, 7, .inl g_first)), (a_second, .inl (cI, 7, .inl g_second)), (a_chosen, .inl (cI, 7, .inl g_chosen)), (a_there, .inl (cI, 81, .inl g_there)), (a_back, .inl (cI, 81, .inl g_back)), (a_uses, .inl (cI, 81, .inl g_uses)), (a_partnerUses, .inl (cI, 81, .inl g_partnerUses))] H := hP
    have hD : va_D A [(a_this, .inr (2, [.ref a_first, .ref a_second, .ref a_chosen, .ref a_there, .ref a_back, .ref a_uses, .ref a_partnerUses, .long x1, .long g_secondSet, .int g_size, .int g_taken, .int g_paired])), (a_first, .inl (cI, 7, .inl g_first)), (a_second, .inl (cI, 7, .inl g_second)), (a_chosen, .inl (cI, 7, .inl g_chosen)), (a_there, .inl (cI, 81, .inl g_there)), (a_back, .inl (cI, 81, .inl g_back)), (a_uses, .inl (cI, 81, .inl g_uses)), (a_partnerUses, .inl (cI, 81, .inl g_partnerUses))] := hD
    refine lv_aload_n hx hb dX2_seek_23 rfl (lv_at hl 0 rfl) ?_
    refine lv_lload_n hx hb dX2_seek_24 rfl (lv_at hl 2 rfl) ?_
    refine va_put (D := D) (ci := 2) (v := .long x3) (ty := .long) (C := RX2) (T := TX2) (N := 12) hx hb hts z1 tyX2 tyX2_ok nmX2 hown hN.1 hP hD hS 0 rfl rfl 8 (by decide) z3 (fun _ h9 => h9) rfl (by decide +kernel) rfl rfl (Nat.le_of_ble_eq_true rfl) dX2_seek_25 (fun H locs hP hD hS => ?_)
    have hP : va_P D vwCl [(a_this, .inr (2, [.ref a_first, .ref a_second, .ref a_chosen, .ref a_there, .ref a_back, .ref a_uses, .ref a_partnerUses, .long x1, .long x3, .int g_size, .int g_taken, .int g_paired])), (a_first, .inl (cI, 7, .inl g_first)), (a_second, .inl (cI, 7, .inl g_second)), (a_chosen, .inl (cI, 7, .inl g_chosen)), (a_there, .inl (cI, 81, .inl g_there)), (a_back, .inl (cI, 81, .inl g_back)), (a_uses, .inl (cI, 81, .inl g_uses)), (a_partnerUses, .inl (cI, 81, .inl g_partnerUses))] H := hP
    have hD : va_D A [(a_this, .inr (2, [.ref a_first, .ref a_second, .ref a_chosen, .ref a_there, .ref a_back, .ref a_uses, .ref a_partnerUses, .long x1, .long x3, .int g_size, .int g_taken, .int g_paired])), (a_first, .inl (cI, 7, .inl g_first)), (a_second, .inl (cI, 7, .inl g_second)), (a_chosen, .inl (cI, 7, .inl g_chosen)), (a_there, .inl (cI, 81, .inl g_there)), (a_back, .inl (cI, 81, .inl g_back)), (a_uses, .inl (cI, 81, .inl g_uses)), (a_partnerUses, .inl (cI, 81, .inl g_partnerUses))] := hD
    refine lv_aload_n hx hb dX2_seek_28 rfl (lv_at hl 0 rfl) ?_
    refine lv_lload_n hx hb dX2_seek_29 rfl (lv_at hl 1 rfl) ?_
    refine lv_aload_n hx hb dX2_seek_30 rfl (lv_at hl 0 rfl) ?_
    refine va_get (D := D) (ci := 2) (v := .ref a_first) (C := RX2) (T := TX2) (N := 12) hx hb hts z1 hown hN.1 hP 0 rfl rfl 0 (by decide) z4 (fun _ h9 => h9) rfl dX2_seek_31 ?_
    obtain ⟨u1, hu1, hf⟩ := bd_some hf
    refine caNI (rest := [.ref a_this]) (As := [.long x1, .ref a_first]) (wr := [(a_this, .inr (2, [.ref a_first, .ref a_second, .ref a_chosen, .ref a_there, .ref a_back, .ref a_uses, .ref a_partnerUses, .long x1, .long x3, .int g_size, .int g_taken, .int g_paired])), (a_second, .inl (cI, 7, .inl g_second)), (a_chosen, .inl (cI, 7, .inl g_chosen)), (a_there, .inl (cI, 81, .inl g_there)), (a_back, .inl (cI, 81, .inl g_back)), (a_uses, .inl (cI, 81, .inl g_uses)), (a_partnerUses, .inl (cI, 81, .inl g_partnerUses))]) (wo := [(a_this, .inr (2, [.ref a_first, .ref a_second, .ref a_chosen, .ref a_there, .ref a_back, .ref a_uses, .ref a_partnerUses, .long x1, .long x3, .int g_size, .int g_taken, .int g_paired])), (a_first, .inl (cI, 7, .inl u1.2)), (a_second, .inl (cI, 7, .inl g_second)), (a_chosen, .inl (cI, 7, .inl g_chosen)), (a_there, .inl (cI, 81, .inl g_there)), (a_back, .inl (cI, 81, .inl g_back)), (a_uses, .inl (cI, 81, .inl g_uses)), (a_partnerUses, .inl (cI, 81, .inl g_partnerUses))]) ⟨hx, hb, hml, hown, hts⟩ hN hP hD hS hA (cX7_listNumbers_ct l D cI cL cC cZ a_first 7 g_first x1 u1.1 u1.2 hu1) ⟨z5, z6, trivial⟩ [1] [0, 2, 3, 4, 5, 6, 7] [0, 7, 1, 2, 3, 4, 5, 6] rfl (by decide) rfl (by decide) (by decide) rfl (by decide) rfl hl.1 rfl (Nat.le_of_ble_eq_true rfl) dX2_seek_34 ⟨Nat.zero_le _, Nat.zero_le _⟩ (fun H locs hP hD hS => ?_)
    refine lv_lload_n hx hb dX2_seek_37 rfl (lv_at hl 2 rfl) ?_
    refine lv_aload_n hx hb dX2_seek_38 rfl (lv_at hl 0 rfl) ?_
    refine va_get (D := D) (ci := 2) (v := .ref a_second) (C := RX2) (T := TX2) (N := 12) hx hb hts z1 hown hN.1 hP 0 rfl rfl 1 (by decide) z7 (fun _ h9 => h9) rfl dX2_seek_39 ?_
    obtain ⟨u2, hu2, hf⟩ := bd_some hf
    refine caNI (rest := [.int u1.1, .ref a_this]) (As := [.long x3, .ref a_second]) (wr := [(a_this, .inr (2, [.ref a_first, .ref a_second, .ref a_chosen, .ref a_there, .ref a_back, .ref a_uses, .ref a_partnerUses, .long x1, .long x3, .int g_size, .int g_taken, .int g_paired])), (a_first, .inl (cI, 7, .inl u1.2)), (a_chosen, .inl (cI, 7, .inl g_chosen)), (a_there, .inl (cI, 81, .inl g_there)), (a_back, .inl (cI, 81, .inl g_back)), (a_uses, .inl (cI, 81, .inl g_uses)), (a_partnerUses, .inl (cI, 81, .inl g_partnerUses))]) (wo := [(a_this, .inr (2, [.ref a_first, .ref a_second, .ref a_chosen, .ref a_there, .ref a_back, .ref a_uses, .ref a_partnerUses, .long x1, .long x3, .int g_size, .int g_taken, .int g_paired])), (a_first, .inl (cI, 7, .inl u1.2)), (a_second, .inl (cI, 7, .inl u2.2)), (a_chosen, .inl (cI, 7, .inl g_chosen)), (a_there, .inl (cI, 81, .inl g_there)), (a_back, .inl (cI, 81, .inl g_back)), (a_uses, .inl (cI, 81, .inl g_uses)), (a_partnerUses, .inl (cI, 81, .inl g_partnerUses))]) ⟨hx, hb, hml, hown, hts⟩ hN hP hD hS hA (cX7_listNumbers_ct l D cI cL cC cZ a_second 7 g_second x3 u2.1 u2.2 hu2) ⟨z5, z6, trivial⟩ [2] [0, 1, 3, 4, 5, 6, 7] [0, 1, 7, 2, 3, 4, 5, 6] rfl (by decide) rfl (by decide) (by decide) rfl (by decide) rfl hl.1 rfl (Nat.le_of_ble_eq_true rfl) dX2_seek_42 ⟨Nat.zero_le _, Nat.zero_le _⟩ (fun H locs hP hD hS => ?_)
    refine va_mmin hx hb (by rw [hml]; exact hl.1.symm) hown z8 z9 z10 z11 (Nat.le_of_ble_eq_true rfl) (Nat.le_of_ble_eq_true rfl) (Nat.zero_le _) (Nat.zero_le _) dX2_seek_45 ?_
    refine lv_topi (fun y3 ey3 => ?_)
    have hf := lt_some hf y3 ey3
    refine va_put (D := D) (ci := 2) (v := .int y3) (ty := .int) (C := RX2) (T := TX2) (N := 12) hx hb hts z1 tyX2 tyX2_ok nmX2 hown hN.1 hP hD hS 0 rfl rfl 9 (by decide) z12 (fun _ h9 => h9) rfl (by decide +kernel) rfl rfl (Nat.le_of_ble_eq_true rfl) dX2_seek_48 (fun H locs hP hD hS => ?_)
    have hP : va_P D vwCl [(a_this, .inr (2, [.ref a_first, .ref a_second, .ref a_chosen, .ref a_there, .ref a_back, .ref a_uses, .ref a_partnerUses, .long x1, .long x3, .int y3, .int g_taken, .int g_paired])), (a_first, .inl (cI, 7, .inl u1.2)), (a_second, .inl (cI, 7, .inl u2.2)), (a_chosen, .inl (cI, 7, .inl g_chosen)), (a_there, .inl (cI, 81, .inl g_there)), (a_back, .inl (cI, 81, .inl g_back)), (a_uses, .inl (cI, 81, .inl g_uses)), (a_partnerUses, .inl (cI, 81, .inl g_partnerUses))] H := hP
    have hD : va_D A [(a_this, .inr (2, [.ref a_first, .ref a_second, .ref a_chosen, .ref a_there, .ref a_back, .ref a_uses, .ref a_partnerUses, .long x1, .long x3, .int y3, .int g_taken, .int g_paired])), (a_first, .inl (cI, 7, .inl u1.2)), (a_second, .inl (cI, 7, .inl u2.2)), (a_chosen, .inl (cI, 7, .inl g_chosen)), (a_there, .inl (cI, 81, .inl g_there)), (a_back, .inl (cI, 81, .inl g_back)), (a_uses, .inl (cI, 81, .inl g_uses)), (a_partnerUses, .inl (cI, 81, .inl g_partnerUses))] := hD
    refine lv_aload_n hx hb dX2_seek_51 rfl (lv_at hl 0 rfl) ?_
    refine lv_iconst (v := 0) hx hb dX2_seek_52 (by decide) ?_
    refine va_put (D := D) (ci := 2) (v := .int (0 : Int32)) (ty := .int) (C := RX2) (T := TX2) (N := 12) hx hb hts z1 tyX2 tyX2_ok nmX2 hown hN.1 hP hD hS 0 rfl rfl 10 (by decide) z13 (fun _ h9 => h9) rfl (by decide +kernel) rfl rfl (Nat.le_of_ble_eq_true rfl) dX2_seek_53 (fun H locs hP hD hS => ?_)
    have hP : va_P D vwCl [(a_this, .inr (2, [.ref a_first, .ref a_second, .ref a_chosen, .ref a_there, .ref a_back, .ref a_uses, .ref a_partnerUses, .long x1, .long x3, .int y3, .int (0 : Int32), .int g_paired])), (a_first, .inl (cI, 7, .inl u1.2)), (a_second, .inl (cI, 7, .inl u2.2)), (a_chosen, .inl (cI, 7, .inl g_chosen)), (a_there, .inl (cI, 81, .inl g_there)), (a_back, .inl (cI, 81, .inl g_back)), (a_uses, .inl (cI, 81, .inl g_uses)), (a_partnerUses, .inl (cI, 81, .inl g_partnerUses))] H := hP
    have hD : va_D A [(a_this, .inr (2, [.ref a_first, .ref a_second, .ref a_chosen, .ref a_there, .ref a_back, .ref a_uses, .ref a_partnerUses, .long x1, .long x3, .int y3, .int (0 : Int32), .int g_paired])), (a_first, .inl (cI, 7, .inl u1.2)), (a_second, .inl (cI, 7, .inl u2.2)), (a_chosen, .inl (cI, 7, .inl g_chosen)), (a_there, .inl (cI, 81, .inl g_there)), (a_back, .inl (cI, 81, .inl g_back)), (a_uses, .inl (cI, 81, .inl g_uses)), (a_partnerUses, .inl (cI, 81, .inl g_partnerUses))] := hD
    refine lv_aload_n hx hb dX2_seek_56 rfl (lv_at hl 0 rfl) ?_
    refine va_get (D := D) (ci := 2) (v := .ref a_uses) (C := RX2) (T := TX2) (N := 12) hx hb hts z1 hown hN.1 hP 0 rfl rfl 5 (by decide) z14 (fun _ h9 => h9) rfl dX2_seek_57 ?_
    refine lv_iconst (v := 0) hx hb dX2_seek_60 (by decide) ?_
    obtain ⟨u4, hu4, hf⟩ := bd_some hf
    refine caSV (rest := []) (As := [.ref a_uses, .int (0 : Int32)]) (wr := [(a_this, .inr (2, [.ref a_first, .ref a_second, .ref a_chosen, .ref a_there, .ref a_back, .ref a_uses, .ref a_partnerUses, .long x1, .long x3, .int y3, .int (0 : Int32), .int g_paired])), (a_first, .inl (cI, 7, .inl u1.2)), (a_second, .inl (cI, 7, .inl u2.2)), (a_chosen, .inl (cI, 7, .inl g_chosen)), (a_there, .inl (cI, 81, .inl g_there)), (a_back, .inl (cI, 81, .inl g_back)), (a_partnerUses, .inl (cI, 81, .inl g_partnerUses))]) (wo := [(a_this, .inr (2, [.ref a_first, .ref a_second, .ref a_chosen, .ref a_there, .ref a_back, .ref a_uses, .ref a_partnerUses, .long x1, .long x3, .int y3, .int (0 : Int32), .int g_paired])), (a_first, .inl (cI, 7, .inl u1.2)), (a_second, .inl (cI, 7, .inl u2.2)), (a_chosen, .inl (cI, 7, .inl g_chosen)), (a_there, .inl (cI, 81, .inl g_there)), (a_back, .inl (cI, 81, .inl g_back)), (a_uses, .inl (cI, 81, .inl u4)), (a_partnerUses, .inl (cI, 81, .inl g_partnerUses))]) ⟨hx, hb, hml, hown, hts⟩ hN hP hD hS hA (cJ7_fill_53178_ct l D cI cL cC cZ a_uses 81 g_uses (0 : Int32) u4 hu4) z15 [6] [0, 1, 2, 3, 4, 5, 7] [0, 1, 2, 3, 4, 5, 7, 6] rfl (by decide) rfl (by decide) (by decide) rfl (by decide) rfl hl.1 rfl (Nat.le_of_ble_eq_true rfl) dX2_seek_61 ⟨Nat.zero_le _, Nat.zero_le _⟩ (fun H locs hP hD hS => ?_)
    refine lv_aload_n hx hb dX2_seek_64 rfl (lv_at hl 0 rfl) ?_
    refine va_get (D := D) (ci := 2) (v := .ref a_partnerUses) (C := RX2) (T := TX2) (N := 12) hx hb hts z1 hown hN.1 hP 0 rfl rfl 6 (by decide) z16 (fun _ h9 => h9) rfl dX2_seek_65 ?_
    refine lv_iconst (v := 0) hx hb dX2_seek_68 (by decide) ?_
    obtain ⟨u5, hu5, hf⟩ := bd_some hf
    refine caSV (rest := []) (As := [.ref a_partnerUses, .int (0 : Int32)]) (wr := [(a_this, .inr (2, [.ref a_first, .ref a_second, .ref a_chosen, .ref a_there, .ref a_back, .ref a_uses, .ref a_partnerUses, .long x1, .long x3, .int y3, .int (0 : Int32), .int g_paired])), (a_first, .inl (cI, 7, .inl u1.2)), (a_second, .inl (cI, 7, .inl u2.2)), (a_chosen, .inl (cI, 7, .inl g_chosen)), (a_there, .inl (cI, 81, .inl g_there)), (a_back, .inl (cI, 81, .inl g_back)), (a_uses, .inl (cI, 81, .inl u4))]) (wo := [(a_this, .inr (2, [.ref a_first, .ref a_second, .ref a_chosen, .ref a_there, .ref a_back, .ref a_uses, .ref a_partnerUses, .long x1, .long x3, .int y3, .int (0 : Int32), .int g_paired])), (a_first, .inl (cI, 7, .inl u1.2)), (a_second, .inl (cI, 7, .inl u2.2)), (a_chosen, .inl (cI, 7, .inl g_chosen)), (a_there, .inl (cI, 81, .inl g_there)), (a_back, .inl (cI, 81, .inl g_back)), (a_uses, .inl (cI, 81, .inl u4)), (a_partnerUses, .inl (cI, 81, .inl u5))]) ⟨hx, hb, hml, hown, hts⟩ hN hP hD hS hA (cJ7_fill_53178_ct l D cI cL cC cZ a_partnerUses 81 g_partnerUses (0 : Int32) u5 hu5) z15 [7] [0, 1, 2, 3, 4, 5, 6] [0, 1, 2, 3, 4, 5, 6, 7] rfl (by decide) rfl (by decide) (by decide) rfl (by decide) rfl hl.1 rfl (Nat.le_of_ble_eq_true rfl) dX2_seek_69 ⟨Nat.zero_le _, Nat.zero_le _⟩ (fun H locs hP hD hS => ?_)
    refine lv_aload_n hx hb dX2_seek_72 rfl (lv_at hl 0 rfl) ?_
    refine lv_aload_n hx hb dX2_seek_73 rfl (lv_at hl 0 rfl) ?_
    refine lv_iconst (v := 0) hx hb dX2_seek_74 (by decide) ?_
    obtain ⟨u6, hu6, hf⟩ := bd_some hf
    refine caSI (rest := [.ref a_this]) (As := [.ref a_this, .int (0 : Int32)]) (wr := []) (wo := [(a_this, .inr (2, [.ref a_first, .ref a_second, .ref a_chosen, .ref a_there, .ref a_back, .ref a_uses, .ref a_partnerUses, .long x1, .long x3, .int y3, .int u6.2.1, .int g_paired])), (a_first, .inl (cI, 7, .inl u1.2)), (a_second, .inl (cI, 7, .inl u2.2)), (a_chosen, .inl (cI, 7, .inl u6.2.2.1)), (a_there, .inl (cI, 81, .inl u6.2.2.2.1)), (a_back, .inl (cI, 81, .inl u6.2.2.2.2.1)), (a_uses, .inl (cI, 81, .inl u6.2.2.2.2.2.1)), (a_partnerUses, .inl (cI, 81, .inl u6.2.2.2.2.2.2))]) ⟨hx, hb, hml, hown, hts⟩ hN hP hD hS hA (cX2_pairFrom_ct l D cI cL cC cZ 8 a_this a_first a_second a_chosen a_there a_back a_uses a_partnerUses x1 x3 y3 (0 : Int32) g_paired u1.2 u2.2 g_chosen g_there g_back u4 u5 (0 : Int32) u6.1 u6.2.1 u6.2.2.1 u6.2.2.2.1 u6.2.2.2.2.1 u6.2.2.2.2.2.1 u6.2.2.2.2.2.2 hu6) z17 [0, 1, 2, 3, 4, 5, 6, 7] [] [0, 1, 2, 3, 4, 5, 6, 7] rfl (by decide) rfl (by decide) (by decide) rfl (by decide) rfl hl.1 rfl (Nat.le_of_ble_eq_true rfl) dX2_seek_75 ⟨Nat.zero_le _, Nat.zero_le _⟩ (fun H locs hP hD hS => ?_)
    obtain ⟨c7, hf⟩ := gd_some hf
    refine va_put (D := D) (ci := 2) (v := .int u6.1) (ty := .boolean) (C := RX2) (T := TX2) (N := 12) hx hb hts z1 tyX2 tyX2_ok nmX2 hown hN.1 hP hD hS 0 rfl rfl 11 (by decide) z18 (fun _ h9 => h9) rfl (by decide +kernel) (isz_nar c7) (isz_fit c7) (Nat.le_of_ble_eq_true rfl) dX2_seek_78 (fun H locs hP hD hS => ?_)
    have hP : va_P D vwCl [(a_this, .inr (2, [.ref a_first, .ref a_second, .ref a_chosen, .ref a_there, .ref a_back, .ref a_uses, .ref a_partnerUses, .long x1, .long x3, .int y3, .int u6.2.1, .int u6.1])), (a_first, .inl (cI, 7, .inl u1.2)), (a_second, .inl (cI, 7, .inl u2.2)), (a_chosen, .inl (cI, 7, .inl u6.2.2.1)), (a_there, .inl (cI, 81, .inl u6.2.2.2.1)), (a_back, .inl (cI, 81, .inl u6.2.2.2.2.1)), (a_uses, .inl (cI, 81, .inl u6.2.2.2.2.2.1)), (a_partnerUses, .inl (cI, 81, .inl u6.2.2.2.2.2.2))] H := hP
    have hD : va_D A [(a_this, .inr (2, [.ref a_first, .ref a_second, .ref a_chosen, .ref a_there, .ref a_back, .ref a_uses, .ref a_partnerUses, .long x1, .long x3, .int y3, .int u6.2.1, .int u6.1])), (a_first, .inl (cI, 7, .inl u1.2)), (a_second, .inl (cI, 7, .inl u2.2)), (a_chosen, .inl (cI, 7, .inl u6.2.2.1)), (a_there, .inl (cI, 81, .inl u6.2.2.2.1)), (a_back, .inl (cI, 81, .inl u6.2.2.2.2.1)), (a_uses, .inl (cI, 81, .inl u6.2.2.2.2.2.1)), (a_partnerUses, .inl (cI, 81, .inl u6.2.2.2.2.2.2))] := hD
    refine lv_aload_n hx hb dX2_seek_81 rfl (lv_at hl 0 rfl) ?_
    refine va_get (D := D) (ci := 2) (v := .int u6.1) (C := RX2) (T := TX2) (N := 12) hx hb hts z1 hown hN.1 hP 0 rfl rfl 11 (by decide) z18 (fun _ h9 => h9) rfl dX2_seek_82 ?_
    obtain ⟨c8, hf⟩ := gd_some hf
    have hE : (u6.1, x1, x3, y3, u6.2.1, u6.1, u1.2, u2.2, u6.2.2.1, u6.2.2.2.1, u6.2.2.2.2.1, u6.2.2.2.2.2.1, u6.2.2.2.2.2.2) = (r0, v_firstSet, v_secondSet, v_size, v_taken, v_paired, v_first, v_second, v_chosen, v_there, v_back, v_uses, v_partnerUses) := Option.some.inj hf
    simp only [Prod.mk.injEq] at hE
    obtain ⟨rfl, rfl, rfl, rfl, rfl, rfl, rfl, rfl, rfl, rfl, rfl, rfl, rfl⟩ := hE
    exact rtZ hx hb hr hlk c8 hP hD hS dX2_seek_85
  unfold fX2_seek at hf
  obtain ⟨H, eH⟩ : ∃ z, z = s.heap := ⟨_, rfl⟩
  obtain ⟨locs, eL⟩ : ∃ z : List Loc, z = [] := ⟨_, rfl⟩
  have hP : va_P D vwCl [(a_this, .inr (2, [.ref a_first, .ref a_second, .ref a_chosen, .ref a_there, .ref a_back, .ref a_uses, .ref a_partnerUses, .long g_firstSet, .long g_secondSet, .int g_size, .int g_taken, .int g_paired])), (a_first, .inl (cI, 7, .inl g_first)), (a_second, .inl (cI, 7, .inl g_second)), (a_chosen, .inl (cI, 7, .inl g_chosen)), (a_there, .inl (cI, 81, .inl g_there)), (a_back, .inl (cI, 81, .inl g_back)), (a_uses, .inl (cI, 81, .inl g_uses)), (a_partnerUses, .inl (cI, 81, .inl g_partnerUses))] H := by rw [eH]; exact hP
  have hS : va_S A s.heap H locs := by rw [eH, eL]; exact hS
  suffices hG : W p l e rmX2_seek s m ([.ref a_this, .long q1, .long q3] : List Value).toArray below meth c H locs 0 0 (MQ below (cQi D r0 A [(a_this, .inr (2, [.ref a_first, .ref a_second, .ref a_chosen, .ref a_there, .ref a_back, .ref a_uses, .ref a_partnerUses, .long v_firstSet, .long v_secondSet, .int v_size, .int v_taken, .int v_paired])), (a_first, .inl (cI, 7, .inl v_first)), (a_second, .inl (cI, 7, .inl v_second)), (a_chosen, .inl (cI, 7, .inl v_chosen)), (a_there, .inl (cI, 81, .inl v_there)), (a_back, .inl (cI, 81, .inl v_back)), (a_uses, .inl (cI, 81, .inl v_uses)), (a_partnerUses, .inl (cI, 81, .inl v_partnerUses))]) ([.ref a_this, .long q1, .long q3] : List Value).toArray s 0 0 A) (F0 m 0 ls []) by rw [eH, eL] at hG; exact hG
  refine lv_lload_n hx hb dX2_seek_0 rfl (lv_at hl 1 rfl) ?_
  refine lv_aload_n hx hb dX2_seek_1 rfl (lv_at hl 0 rfl) ?_
  refine va_get (D := D) (ci := 2) (v := .long g_firstSet) (C := RX2) (T := TX2) (N := 12) hx hb hts z1 hown hN.1 hP 0 rfl rfl 7 (by decide) z2 (fun _ h9 => h9) rfl dX2_seek_2 ?_
  refine W.lcmp hx hb dX2_seek_5 ?_
  refine lv_if_ne (tgt := 18) hx hb dX2_seek_6 (by decide) (fun c9 => ?_) (fun c9 => ?_)
  · have hf := br_neg c9 hf
    exact w18 q1 q3 g_firstSet g_secondSet g_size g_taken g_paired g_first g_second g_chosen g_there g_back g_uses g_partnerUses H locs ls hf hP hD hS (lv_sub hl [0, 1, 2] rfl)
  · have hf := br_pos c9 hf
    refine lv_lload_n hx hb dX2_seek_9 rfl (lv_at hl 2 rfl) ?_
    refine lv_aload_n hx hb dX2_seek_10 rfl (lv_at hl 0 rfl) ?_
    refine va_get (D := D) (ci := 2) (v := .long g_secondSet) (C := RX2) (T := TX2) (N := 12) hx hb hts z1 hown hN.1 hP 0 rfl rfl 8 (by decide) z3 (fun _ h9 => h9) rfl dX2_seek_11 ?_
    refine W.lcmp hx hb dX2_seek_14 ?_
    refine lv_if_eq (tgt := 81) hx hb dX2_seek_15 (by decide) (fun c10 => ?_) (fun c10 => ?_)
    · have hf := br_pos c10 hf
      refine lv_aload_n hx hb dX2_seek_81 rfl (lv_at hl 0 rfl) ?_
      refine va_get (D := D) (ci := 2) (v := .int g_paired) (C := RX2) (T := TX2) (N := 12) hx hb hts z1 hown hN.1 hP 0 rfl rfl 11 (by decide) z18 (fun _ h9 => h9) rfl dX2_seek_82 ?_
      obtain ⟨c11, hf⟩ := gd_some hf
      have hE : (g_paired, g_firstSet, g_secondSet, g_size, g_taken, g_paired, g_first, g_second, g_chosen, g_there, g_back, g_uses, g_partnerUses) = (r0, v_firstSet, v_secondSet, v_size, v_taken, v_paired, v_first, v_second, v_chosen, v_there, v_back, v_uses, v_partnerUses) := Option.some.inj hf
      simp only [Prod.mk.injEq] at hE
      obtain ⟨rfl, rfl, rfl, rfl, rfl, rfl, rfl, rfl, rfl, rfl, rfl, rfl, rfl⟩ := hE
      exact rtZ hx hb hr hlk c11 hP hD hS dX2_seek_85
    · have hf := br_neg c10 hf
      exact w18 q1 q3 g_firstSet g_secondSet g_size g_taken g_paired g_first g_second g_chosen g_there g_back g_uses g_partnerUses H locs ls hf hP hD hS (lv_sub hl [0, 1, 2] rfl)
abbrev rmX2_partnerOf : Room := { frames := 0, cells := 0, slots := 0, locals := 0 }
noncomputable def bX2_partnerOf_26 (g_size : Int32) (g_second : Nat → Int32) (g_chosen : Nat → Int32) : Option (Int32) := some ((-4 : Int32))
noncomputable def fX2_partnerOf (q1 : Int32) (g_size : Int32) (g_second : Nat → Int32) (g_chosen : Nat → Int32) : Option (Int32) := br (q1 < 0) (bX2_partnerOf_26 g_size g_second g_chosen) (br (g_size ≤ q1) (bX2_partnerOf_26 g_size g_second g_chosen) (gd (¬ q1 < 0 ∧ q1.toNatClampNeg < 7) (gd (¬ (g_chosen q1.toNatClampNeg) < 0 ∧ (g_chosen q1.toNatClampNeg).toNatClampNeg < 7) (some (g_second (g_chosen q1.toNatClampNeg).toNatClampNeg)))))
set_option maxHeartbeats 4000000 in
set_option maxRecDepth 100000 in
theorem cX2_partnerOf_ct (l : Launch) (D : va_G) (cI cL cC cZ : ClassId) (a_this a_first a_second a_chosen a_there a_back a_uses a_partnerUses : Nat) (g_firstSet : Int64) (g_secondSet : Int64) (g_size : Int32) (g_taken : Int32) (g_paired : Int32) (g_second : Nat → Int32) (g_chosen : Nat → Int32) (q1 : Int32) (r0 : Int32) (hf : fX2_partnerOf q1 g_size g_second g_chosen = some r0) : CtI l yX2_partnerOf wsX2_partnerOf rmX2_partnerOf D (tyz cI cL cC cZ) [.ref a_this, .int q1] [(a_this, .inr (2, [.ref a_first, .ref a_second, .ref a_chosen, .ref a_there, .ref a_back, .ref a_uses, .ref a_partnerUses, .long g_firstSet, .long g_secondSet, .int g_size, .int g_taken, .int g_paired])), (a_second, .inl (cI, 7, .inl g_second)), (a_chosen, .inl (cI, 7, .inl g_chosen))] [(a_this, .inr (2, [.ref a_first, .ref a_second, .ref a_chosen, .ref a_there, .ref a_back, .ref a_uses, .ref a_partnerUses, .long g_firstSet, .long g_secondSet, .int g_size, .int g_taken, .int g_paired])), (a_second, .inl (cI, 7, .inl g_second)), (a_chosen, .inl (cI, 7, .inl g_chosen))] r0 := by
  refine CtI.make (cc := cX2_partnerOf) (maxL := 2) (ty := .int) (by decide) rfl (Nat.le_of_ble_eq_true rfl) ?_
  intro p e s m below meth c A ls C0 hN hA hP hD hl
  obtain ⟨hx, hb, hr, hml, hown, hts, hlk⟩ := id C0
  have hown : s.vm.findClass RX2 = some m.cls := hown
  have hS : va_S A s.heap s.heap [] := va_S.rf
  have hP : va_P D vwCl [(a_this, .inr (2, [.ref a_first, .ref a_second, .ref a_chosen, .ref a_there, .ref a_back, .ref a_uses, .ref a_partnerUses, .long g_firstSet, .long g_secondSet, .int g_size, .int g_taken, .int g_paired])), (a_second, .inl (cI, 7, .inl g_second)), (a_chosen, .inl (cI, 7, .inl g_chosen))] s.heap := hP
  have hD : va_D A [(a_this, .inr (2, [.ref a_first, .ref a_second, .ref a_chosen, .ref a_there, .ref a_back, .ref a_uses, .ref a_partnerUses, .long g_firstSet, .long g_secondSet, .int g_size, .int g_taken, .int g_paired])), (a_second, .inl (cI, 7, .inl g_second)), (a_chosen, .inl (cI, 7, .inl g_chosen))] := hD
  have hl : lv_has ls 2 [(0, .ref a_this), (1, .int q1)] := hl
  have z1 : ∀ w ∈ u_ws RX2 TX2 12, w ∈ wsX2_partnerOf := by decide +kernel
  have z2 := hts (.fieldLink RX2 50 "LittleSums$PairingSearch" "size" "I") (by decide +kernel)
  have z3 := hts (.fieldLink RX2 15 "LittleSums$PairingSearch" "second" "[I") (by decide +kernel)
  have z4 := hts (.fieldLink RX2 18 "LittleSums$PairingSearch" "chosen" "[I") (by decide +kernel)
  have w26 : ∀ (g_size : Int32) (g_second : Nat → Int32) (g_chosen : Nat → Int32) (H : Heap) (locs : List Loc) (ls : Array Slot), bX2_partnerOf_26 g_size g_second g_chosen = some r0 → va_P D vwCl [(a_this, .inr (2, [.ref a_first, .ref a_second, .ref a_chosen, .ref a_there, .ref a_back, .ref a_uses, .ref a_partnerUses, .long g_firstSet, .long g_secondSet, .int g_size, .int g_taken, .int g_paired])), (a_second, .inl (cI, 7, .inl g_second)), (a_chosen, .inl (cI, 7, .inl g_chosen))] H → va_D A [(a_this, .inr (2, [.ref a_first, .ref a_second, .ref a_chosen, .ref a_there, .ref a_back, .ref a_uses, .ref a_partnerUses, .long g_firstSet, .long g_secondSet, .int g_size, .int g_taken, .int g_paired])), (a_second, .inl (cI, 7, .inl g_second)), (a_chosen, .inl (cI, 7, .inl g_chosen))] → va_S A s.heap H locs → lv_has ls 2 [] → W p l e rmX2_partnerOf s m ([.ref a_this, .int q1] : List Value).toArray below meth c H locs 0 0 (MQ below (cQi D r0 A [(a_this, .inr (2, [.ref a_first, .ref a_second, .ref a_chosen, .ref a_there, .ref a_back, .ref a_uses, .ref a_partnerUses, .long g_firstSet, .long g_secondSet, .int g_size, .int g_taken, .int g_paired])), (a_second, .inl (cI, 7, .inl g_second)), (a_chosen, .inl (cI, 7, .inl g_chosen))]) ([.ref a_this, .int q1] : List Value).toArray s 0 0 A) (F0 m 26 ls []) := by
    intro g_size g_second g_chosen H locs ls hf hP hD hS hl
    unfold bX2_partnerOf_26 at hf
    refine lv_bipush (v := -4) hx hb dX2_partnerOf_26 (by decide) ?_
    have hE : (-4 : Int32) = r0 := Option.some.inj hf
    subst hE
    exact rtI hx hb hr hlk hP hD hS dX2_partnerOf_28
  unfold fX2_partnerOf at hf
  obtain ⟨H, eH⟩ : ∃ z, z = s.heap := ⟨_, rfl⟩
  obtain ⟨locs, eL⟩ : ∃ z : List Loc, z = [] := ⟨_, rfl⟩
  have hP : va_P D vwCl [(a_this, .inr (2, [.ref a_first, .ref a_second, .ref a_chosen, .ref a_there, .ref a_back, .ref a_uses, .ref a_partnerUses, .long g_firstSet, .long g_secondSet, .int g_size, .int g_taken, .int g_paired])), (a_second, .inl (cI, 7, .inl g_second)), (a_chosen, .inl (cI, 7, .inl g_chosen))] H := by rw [eH]; exact hP
  have hS : va_S A s.heap H locs := by rw [eH, eL]; exact hS
  suffices hG : W p l e rmX2_partnerOf s m ([.ref a_this, .int q1] : List Value).toArray below meth c H locs 0 0 (MQ below (cQi D r0 A [(a_this, .inr (2, [.ref a_first, .ref a_second, .ref a_chosen, .ref a_there, .ref a_back, .ref a_uses, .ref a_partnerUses, .long g_firstSet, .long g_secondSet, .int g_size, .int g_taken, .int g_paired])), (a_second, .inl (cI, 7, .inl g_second)), (a_chosen, .inl (cI, 7, .inl g_chosen))]) ([.ref a_this, .int q1] : List Value).toArray s 0 0 A) (F0 m 0 ls []) by rw [eH, eL] at hG; exact hG
  refine lv_iload_n hx hb dX2_partnerOf_0 rfl (lv_at hl 1 rfl) ?_
  refine lv_if_lt (tgt := 26) hx hb dX2_partnerOf_1 (by decide) (fun c1 => ?_) (fun c1 => ?_)
  · have hf := br_pos c1 hf
    exact w26 g_size g_second g_chosen H locs ls hf hP hD hS (lv_sub hl [] rfl)
  · have hf := br_neg c1 hf
    refine lv_iload_n hx hb dX2_partnerOf_4 rfl (lv_at hl 1 rfl) ?_
    refine lv_aload_n hx hb dX2_partnerOf_5 rfl (lv_at hl 0 rfl) ?_
    refine va_get (D := D) (ci := 2) (v := .int g_size) (C := RX2) (T := TX2) (N := 12) hx hb hts z1 hown hN.1 hP 0 rfl rfl 9 (by decide) z2 (fun _ h9 => h9) rfl dX2_partnerOf_6 ?_
    refine lv_icmp_ge (tgt := 26) hx hb dX2_partnerOf_9 (by decide) (fun c2 => ?_) (fun c2 => ?_)
    · have hf := br_pos c2 hf
      exact w26 g_size g_second g_chosen H locs ls hf hP hD hS (lv_sub hl [] rfl)
    · have hf := br_neg c2 hf
      refine lv_aload_n hx hb dX2_partnerOf_12 rfl (lv_at hl 0 rfl) ?_
      refine va_get (D := D) (ci := 2) (v := .ref a_second) (C := RX2) (T := TX2) (N := 12) hx hb hts z1 hown hN.1 hP 0 rfl rfl 1 (by decide) z3 (fun _ h9 => h9) rfl dX2_partnerOf_13 ?_
      refine lv_aload_n hx hb dX2_partnerOf_16 rfl (lv_at hl 0 rfl) ?_
      refine va_get (D := D) (ci := 2) (v := .ref a_chosen) (C := RX2) (T := TX2) (N := 12) hx hb hts z1 hown hN.1 hP 0 rfl rfl 2 (by decide) z4 (fun _ h9 => h9) rfl dX2_partnerOf_17 ?_
      refine lv_iload_n hx hb dX2_partnerOf_20 rfl (lv_at hl 1 rfl) ?_
      obtain ⟨c3, hf⟩ := gd_some hf
      refine va_iald hx hb hN.1 hP 2 0 rfl rfl (ix_in c3) dX2_partnerOf_21 ?_
      obtain ⟨c4, hf⟩ := gd_some hf
      refine va_iald hx hb hN.1 hP 1 0 rfl rfl (ix_in c4) dX2_partnerOf_22 ?_
      refine lv_goto (tgt := 28) hx hb dX2_partnerOf_23 (by decide) ?_
      have hE : g_second (g_chosen q1.toNatClampNeg).toNatClampNeg = r0 := Option.some.inj hf
      subst hE
      exact rtI hx hb hr hlk hP hD hS dX2_partnerOf_28
abbrev rmX3_length : Room := { frames := 0, cells := 0, slots := 0, locals := 0 }
noncomputable def fX3_length (g_length : Int32) : Option (Int32) := some (g_length)
set_option maxHeartbeats 4000000 in
set_option maxRecDepth 100000 in
theorem cX3_length_ct (l : Launch) (D : va_G) (cI cL cC cZ : ClassId) (a_this a_letters a_sets : Nat) (g_length : Int32) (g_numbers : Int64) (r0 : Int32) (hf : fX3_length g_length = some r0) : CtI l yX3_length wsX3_length rmX3_length D (tyz cI cL cC cZ) [.ref a_this] [(a_this, .inr (3, [.ref a_letters, .ref a_sets, .int g_length, .long g_numbers]))] [(a_this, .inr (3, [.ref a_letters, .ref a_sets, .int g_length, .long g_numbers]))] r0 := by
  refine CtI.make (cc := cX3_length) (maxL := 1) (ty := .int) (by decide) rfl (Nat.le_of_ble_eq_true rfl) ?_
  intro p e s m below meth c A ls C0 hN hA hP hD hl
  obtain ⟨hx, hb, hr, hml, hown, hts, hlk⟩ := id C0
  have hown : s.vm.findClass RX3 = some m.cls := hown
  have hS : va_S A s.heap s.heap [] := va_S.rf
  have hP : va_P D vwCl [(a_this, .inr (3, [.ref a_letters, .ref a_sets, .int g_length, .long g_numbers]))] s.heap := hP
  have hD : va_D A [(a_this, .inr (3, [.ref a_letters, .ref a_sets, .int g_length, .long g_numbers]))] := hD
  have hl : lv_has ls 1 [(0, .ref a_this)] := hl
  have z1 : ∀ w ∈ u_ws RX3 TX3 4, w ∈ wsX3_length := by decide +kernel
  have z2 := hts (.fieldLink RX3 19 "LittleSums$Script" "length" "I") (by decide +kernel)
  unfold fX3_length at hf
  obtain ⟨H, eH⟩ : ∃ z, z = s.heap := ⟨_, rfl⟩
  obtain ⟨locs, eL⟩ : ∃ z : List Loc, z = [] := ⟨_, rfl⟩
  have hP : va_P D vwCl [(a_this, .inr (3, [.ref a_letters, .ref a_sets, .int g_length, .long g_numbers]))] H := by rw [eH]; exact hP
  have hS : va_S A s.heap H locs := by rw [eH, eL]; exact hS
  suffices hG : W p l e rmX3_length s m ([.ref a_this] : List Value).toArray below meth c H locs 0 0 (MQ below (cQi D r0 A [(a_this, .inr (3, [.ref a_letters, .ref a_sets, .int g_length, .long g_numbers]))]) ([.ref a_this] : List Value).toArray s 0 0 A) (F0 m 0 ls []) by rw [eH, eL] at hG; exact hG
  refine lv_aload_n hx hb dX3_length_0 rfl (lv_at hl 0 rfl) ?_
  refine va_get (D := D) (ci := 3) (v := .int g_length) (C := RX3) (T := TX3) (N := 4) hx hb hts z1 hown hN.1 hP 0 rfl rfl 2 (by decide) z2 (fun _ h9 => h9) rfl dX3_length_1 ?_
  have hE : g_length = r0 := Option.some.inj hf
  subst hE
  exact rtI hx hb hr hlk hP hD hS dX3_length_4
