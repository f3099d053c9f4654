abbrev rmX8_becomes : Room := { frames := 1, cells := 0, slots := 0, locals := 23 }
noncomputable def bX8_becomes_6 (x1 : Int32) (g_undoMany : Int32) (g_before : Nat → Int32) (g_sums : Nat → Int32) (x2 : Int32) (g_now : Nat → Int32) : Option ((Int32 × (Nat → Int32)) ⊕ (Int32 × Int32 × (Nat → Int32) × (Nat → Int32))) := br ((41 : Int32) ≤ x2) (bd (fX8_manyOf x1 g_now) (fun u2 => some (Sum.inr ((u2, g_undoMany, g_now, g_before))))) (gd (¬ x2 < 0 ∧ x2.toNatClampNeg < 241) (lt_ (g_sums x2.toNatClampNeg) (fun y4 => gd (¬ (((41 : Int32) * x1) + x2) < 0 ∧ (((41 : Int32) * x1) + x2).toNatClampNeg < 164) (lt_ (upd g_now (((41 : Int32) * x1) + x2).toNatClampNeg (vp_nar .boolean y4)) (fun y6 => lt_ (x2 + (1 : Int32)) (fun y7 => some (Sum.inl ((y7, y6)))))))))
noncomputable def sX8_becomes_6 (x1 : Int32) (g_undoMany : Int32) (g_before : Nat → Int32) (g_sums : Nat → Int32) : (Int32 × (Nat → Int32)) → Option ((Int32 × (Nat → Int32)) ⊕ (Int32 × Int32 × (Nat → Int32) × (Nat → Int32))) := fun q => bX8_becomes_6 x1 g_undoMany g_before g_sums q.1 q.2
noncomputable def fX8_becomes (q1 : Int32) (g_undoMany : Int32) (g_now : Nat → Int32) (g_before : Nat → Int32) (g_sums : Nat → Int32) : Option (Int32 × Int32 × (Nat → Int32) × (Nat → Int32)) := bd (fX8_note g_undoMany g_now g_before) (fun u8 => run (sX8_becomes_6 q1 u8.1 u8.2 g_sums) (((0 : Int32), g_now)))
set_option maxHeartbeats 4000000 in
set_option maxRecDepth 100000 in
theorem cX8_becomes_ct (l : Launch) (D : va_G) (cI cL cC cZ : ClassId) (a_this a_text a_now a_before a_read a_first a_second a_sums a_other a_grid a_order : Nat) (g_length : Int32) (g_undoMany : Int32) (g_spot : Int32) (g_step : Int32) (g_coverMany : Int32) (g_leastSums : Int32) (g_leastPart : Int32) (g_now : Nat → Int32) (g_before : Nat → Int32) (g_sums : Nat → Int32) (q1 : Int32) (r0 : Int32) (v_undoMany : Int32) (v_now : Nat → Int32) (v_before : Nat → Int32) (hf : fX8_becomes q1 g_undoMany g_now g_before g_sums = some ((r0, v_undoMany, v_now, v_before))) : CtI l yX8_becomes wsX8_becomes rmX8_becomes D (tyz cI cL cC cZ) [.ref a_this, .int q1] [(a_this, .inr (8, [.int g_length, .ref a_text, .ref a_now, .ref a_before, .int g_undoMany, .ref a_read, .int g_spot, .ref a_first, .ref a_second, .ref a_sums, .ref a_other, .int g_step, .int g_coverMany, .ref a_grid, .ref a_order, .int g_leastSums, .int g_leastPart])), (a_now, .inl (cZ, 164, .inl g_now)), (a_before, .inl (cZ, 984, .inl g_before)), (a_sums, .inl (cZ, 241, .inl g_sums))] [(a_this, .inr (8, [.int g_length, .ref a_text, .ref a_now, .ref a_before, .int v_undoMany, .ref a_read, .int g_spot, .ref a_first, .ref a_second, .ref a_sums, .ref a_other, .int g_step, .int g_coverMany, .ref a_grid, .ref a_order, .int g_leastSums, .int g_leastPart])), (a_now, .inl (cZ, 164, .inl v_now)), (a_before, .inl (cZ, 984, .inl v_before)), (a_sums, .inl (cZ, 241, .inl g_sums))] r0 := by
  refine CtI.make (cc := cX8_becomes) (maxL := 3) (ty := .int) (by decide) rfl (Nat.le_of_ble_eq_true rfl) ?_
  intro p e s m below meth c A ls C0 hN hA hP hD hl
  obtain ⟨hx, hb, hr, hml, hown, hts, hlk⟩ := id C0
  have hown : s.vm.findClass RX8 = some m.cls := hown
  have hS : va_S A s.heap s.heap [] := va_S.rf
  have hP : va_P D vwCl [(a_this, .inr (8, [.int g_length, .ref a_text, .ref a_now, .ref a_before, .int g_undoMany, .ref a_read, .int g_spot, .ref a_first, .ref a_second, .ref a_sums, .ref a_other, .int g_step, .int g_coverMany, .ref a_grid, .ref a_order, .int g_leastSums, .int g_leastPart])), (a_now, .inl (cZ, 164, .inl g_now)), (a_before, .inl (cZ, 984, .inl g_before)), (a_sums, .inl (cZ, 241, .inl g_sums))] s.heap := hP
  have hD : va_D A [(a_this, .inr (8, [.int g_length, .ref a_text, .ref a_now, .ref a_before, .int g_undoMany, .ref a_read, .int g_spot, .ref a_first, .ref a_second, .ref a_sums, .ref a_other, .int g_step, .int g_coverMany, .ref a_grid, .ref a_order, .int g_leastSums, .int g_leastPart])), (a_now, .inl (cZ, 164, .inl g_now)), (a_before, .inl (cZ, 984, .inl g_before)), (a_sums, .inl (cZ, 241, .inl g_sums))] := hD
  have hl : lv_has ls 3 [(0, .ref a_this), (1, .int q1)] := hl
  have z1 := cwV (R := rmX8_becomes) (rm := rmX8_manyOf) (mc := 0) (ms := 0) 1 hts gX8_becomes_X8_manyOf rfl rfl rfl (by decide +kernel) ⟨Nat.le_of_ble_eq_true rfl, Nat.le_of_ble_eq_true rfl⟩
  have z2 : ∀ w ∈ u_ws RX8 TX8 17, w ∈ wsX8_becomes := by decide +kernel
  have z3 := hts (.fieldLink RX8 13 "LittleSumsModel" "now" "[Z") (by decide +kernel)
  have z4 := hts (.fieldLink RX8 29 "LittleSumsModel" "sums" "[Z") (by decide +kernel)
  have z5 := cwV (R := rmX8_becomes) (rm := rmX8_note) (mc := 0) (ms := 0) 0 hts gX8_becomes_X8_note rfl rfl rfl (by decide +kernel) ⟨Nat.le_of_ble_eq_true rfl, Nat.le_of_ble_eq_true rfl⟩
  have w6 : ∀ (x1 : Int32) (g_undoMany : Int32) (g_before : Nat → Int32) (g_sums : Nat → Int32) (x2 : Int32) (g_now : Nat → Int32) (t : Int32 × Int32 × (Nat → Int32) × (Nat → Int32)) (H : Heap) (locs : List Loc) (ls : Array Slot), run (sX8_becomes_6 x1 g_undoMany g_before g_sums) ((x2, g_now)) = some t → (fun z => z = (r0, v_undoMany, v_now, v_before)) t → va_P D vwCl [(a_this, .inr (8, [.int g_length, .ref a_text, .ref a_now, .ref a_before, .int g_undoMany, .ref a_read, .int g_spot, .ref a_first, .ref a_second, .ref a_sums, .ref a_other, .int g_step, .int g_coverMany, .ref a_grid, .ref a_order, .int g_leastSums, .int g_leastPart])), (a_now, .inl (cZ, 164, .inl g_now)), (a_before, .inl (cZ, 984, .inl g_before)), (a_sums, .inl (cZ, 241, .inl g_sums))] H → va_D A [(a_this, .inr (8, [.int g_length, .ref a_text, .ref a_now, .ref a_before, .int g_undoMany, .ref a_read, .int g_spot, .ref a_first, .ref a_second, .ref a_sums, .ref a_other, .int g_step, .int g_coverMany, .ref a_grid, .ref a_order, .int g_leastSums, .int g_leastPart])), (a_now, .inl (cZ, 164, .inl g_now)), (a_before, .inl (cZ, 984, .inl g_before)), (a_sums, .inl (cZ, 241, .inl g_sums))] → va_S A s.heap H locs → lv_has ls 3 [(0, .ref a_this), (1, .int x1), (2, .int x2)] → W p l e rmX8_becomes s m ([.ref a_this, .int q1] : List Value).toArray below meth c H locs 0 0 (MQ below (cQi D r0 A [(a_this, .inr (8, [.int g_length, .ref a_text, .ref a_now, .ref a_before, .int v_undoMany, .ref a_read, .int g_spot, .ref a_first, .ref a_second, .ref a_sums, .ref a_other, .int g_step, .int g_coverMany, .ref a_grid, .ref a_order, .int g_leastSums, .int g_leastPart])), (a_now, .inl (cZ, 164, .inl v_now)), (a_before, .inl (cZ, 984, .inl v_before)), (a_sums, .inl (cZ, 241, .inl g_sums))]) ([.ref a_this, .int q1] : List Value).toArray s 0 0 A) (F0 m 6 ls []) := by
    intro x1 g_undoMany g_before g_sums
    obtain ⟨F6, eF6⟩ : ∃ F : (Int32 × (Nat → Int32)) → Prop, F = fun q => ∀ (H : Heap) (locs : List Loc) (ls : Array Slot), va_P D vwCl [(a_this, .inr (8, [.int g_length, .ref a_text, .ref a_now, .ref a_before, .int g_undoMany, .ref a_read, .int g_spot, .ref a_first, .ref a_second, .ref a_sums, .ref a_other, .int g_step, .int g_coverMany, .ref a_grid, .ref a_order, .int g_leastSums, .int g_leastPart])), (a_now, .inl (cZ, 164, .inl q.2)), (a_before, .inl (cZ, 984, .inl g_before)), (a_sums, .inl (cZ, 241, .inl g_sums))] H → va_D A [(a_this, .inr (8, [.int g_length, .ref a_text, .ref a_now, .ref a_before, .int g_undoMany, .ref a_read, .int g_spot, .ref a_first, .ref a_second, .ref a_sums, .ref a_other, .int g_step, .int g_coverMany, .ref a_grid, .ref a_order, .int g_leastSums, .int g_leastPart])), (a_now, .inl (cZ, 164, .inl q.2)), (a_before, .inl (cZ, 984, .inl g_before)), (a_sums, .inl (cZ, 241, .inl g_sums))] → va_S A s.heap H locs → lv_has ls 3 [(0, .ref a_this), (1, .int x1), (2, .int q.1)] → W p l e rmX8_becomes s m ([.ref a_this, .int q1] : List Value).toArray below meth c H locs 0 0 (MQ below (cQi D r0 A [(a_this, .inr (8, [.int g_length, .ref a_text, .ref a_now, .ref a_before, .int v_undoMany, .ref a_read, .int g_spot, .ref a_first, .ref a_second, .ref a_sums, .ref a_other, .int g_step, .int g_coverMany, .ref a_grid, .ref a_order, .int g_leastSums, .int g_leastPart])), (a_now, .inl (cZ, 164, .inl v_now)), (a_before, .inl (cZ, 984, .inl v_before)), (a_sums, .inl (cZ, 241, .inl g_sums))]) ([.ref a_this, .int q1] : List Value).toArray s 0 0 A) (F0 m 6 ls []) := ⟨_, rfl⟩
    have key : ∀ (q : Int32 × (Nat → Int32)) (t : Int32 × Int32 × (Nat → Int32) × (Nat → Int32)), run (sX8_becomes_6 x1 g_undoMany g_before g_sums) q = some t → (fun z => z = (r0, v_undoMany, v_now, v_before)) t → F6 q := by
      refine loop_rule (sX8_becomes_6 x1 g_undoMany g_before g_sums) F6 (fun z => z = (r0, v_undoMany, v_now, v_before)) ?_
      intro q t hf hF
      have hF : (Sum.elim F6 (fun z => z = (r0, v_undoMany, v_now, v_before))) t := hF
      rw [eF6]
      obtain ⟨x2, g_now⟩ := q
      intro H locs ls hP hD hS hl
      have hP : va_P D vwCl [(a_this, .inr (8, [.int g_length, .ref a_text, .ref a_now, .ref a_before, .int g_undoMany, .ref a_read, .int g_spot, .ref a_first, .ref a_second, .ref a_sums, .ref a_other, .int g_step, .int g_coverMany, .ref a_grid, .ref a_order, .int g_leastSums, .int g_leastPart])), (a_now, .inl (cZ, 164, .inl g_now)), (a_before, .inl (cZ, 984, .inl g_before)), (a_sums, .inl (cZ, 241, .inl g_sums))] H := hP
      have hD : va_D A [(a_this, .inr (8, [.int g_length, .ref a_text, .ref a_now, .ref a_before, .int g_undoMany, .ref a_read, .int g_spot, .ref a_first, .ref a_second, .ref a_sums, .ref a_other, .int g_step, .int g_coverMany, .ref a_grid, .ref a_order, .int g_leastSums, .int g_leastPart])), (a_now, .inl (cZ, 164, .inl g_now)), (a_before, .inl (cZ, 984, .inl g_before)), (a_sums, .inl (cZ, 241, .inl g_sums))] := hD
      have hl : lv_has ls 3 [(0, .ref a_this), (1, .int x1), (2, .int x2)] := hl
      have hf : bX8_becomes_6 x1 g_undoMany g_before g_sums x2 g_now = some t := hf
      unfold bX8_becomes_6 at hf
      refine lv_iload_n hx hb dX8_becomes_6 rfl (lv_at hl 2 rfl) ?_
      refine lv_bipush (v := 41) hx hb dX8_becomes_7 (by decide) ?_
      refine lv_icmp_ge (tgt := 35) hx hb dX8_becomes_9 (by decide) (fun c1 => ?_) (fun c1 => ?_)
      · have hf := br_pos c1 hf
        refine lv_aload_n hx hb dX8_becomes_35 rfl (lv_at hl 0 rfl) ?_
        refine lv_iload_n hx hb dX8_becomes_36 rfl (lv_at hl 1 rfl) ?_
        obtain ⟨u2, hu2, hf⟩ := bd_some hf
        refine caVI (rest := []) (As := [.int x1]) (wr := [(a_before, .inl (cZ, 984, .inl g_before)), (a_sums, .inl (cZ, 241, .inl g_sums))]) (wo := [(a_this, .inr (8, [.int g_length, .ref a_text, .ref a_now, .ref a_before, .int g_undoMany, .ref a_read, .int g_spot, .ref a_first, .ref a_second, .ref a_sums, .ref a_other, .int g_step, .int g_coverMany, .ref a_grid, .ref a_order, .int g_leastSums, .int g_leastPart])), (a_now, .inl (cZ, 164, .inl g_now)), (a_before, .inl (cZ, 984, .inl g_before)), (a_sums, .inl (cZ, 241, .inl g_sums))]) ⟨hx, hb, hml, hown, hts⟩ hN hP hD hS hA (cX8_manyOf_ct l D cI cL cC cZ a_this a_text a_now a_before a_read a_first a_second a_sums a_other a_grid a_order g_length g_undoMany g_spot g_step g_coverMany g_leastSums g_leastPart g_now x1 u2 hu2) z1 0 8 rfl rfl [0, 1] [2, 3] [2, 3, 0, 1] rfl (by decide) rfl (by decide) (by decide) rfl (by decide) rfl hl.1 rfl (Nat.le_of_ble_eq_true rfl) dX8_becomes_37 ⟨Nat.zero_le _, Nat.zero_le _⟩ (fun H locs hP hD hS => ?_)
        cases hf
        have hE : (u2, g_undoMany, g_now, g_before) = (r0, v_undoMany, v_now, v_before) := hF
        simp only [Prod.mk.injEq] at hE
        obtain ⟨rfl, rfl, rfl, rfl⟩ := hE
        exact rtI hx hb hr hlk hP hD hS dX8_becomes_40
      · have hf := br_neg c1 hf
        refine lv_aload_n hx hb dX8_becomes_12 rfl (lv_at hl 0 rfl) ?_
        refine va_get (D := D) (ci := 8) (v := .ref a_now) (C := RX8) (T := TX8) (N := 17) hx hb hts z2 hown hN.1 hP 0 rfl rfl 2 (by decide) z3 (fun _ h9 => h9) rfl dX8_becomes_13 ?_
        refine lv_bipush (v := 41) hx hb dX8_becomes_16 (by decide) ?_
        refine lv_iload_n hx hb dX8_becomes_18 rfl (lv_at hl 1 rfl) ?_
        refine lv_imul hx hb dX8_becomes_19 ?_
        refine lv_iload_n hx hb dX8_becomes_20 rfl (lv_at hl 2 rfl) ?_
        refine lv_iadd hx hb dX8_becomes_21 ?_
        refine lv_aload_n hx hb dX8_becomes_22 rfl (lv_at hl 0 rfl) ?_
        refine va_get (D := D) (ci := 8) (v := .ref a_sums) (C := RX8) (T := TX8) (N := 17) hx hb hts z2 hown hN.1 hP 0 rfl rfl 9 (by decide) z4 (fun _ h9 => h9) rfl dX8_becomes_23 ?_
        refine lv_iload_n hx hb dX8_becomes_26 rfl (lv_at hl 2 rfl) ?_
        obtain ⟨c3, hf⟩ := gd_some hf
        refine va_zald hx hb hN.1 hP 3 3 rfl rfl (ix_in c3) dX8_becomes_27 ?_
        refine lv_topi (fun y4 ey4 => ?_)
        have hf := lt_some hf y4 ey4
        obtain ⟨c5, hf⟩ := gd_some hf
        refine va_zast hx hb hN.1 hP hD hS 1 3 rfl rfl (ix_in c5) dX8_becomes_28 (fun H locs hP hD hS => ?_)
        obtain ⟨y6, ey6⟩ : ∃ z, z = upd g_now (((41 : Int32) * x1) + x2).toNatClampNeg (vp_nar .boolean y4) := ⟨_, rfl⟩
        have hf := lt_some hf y6 ey6
        have hP : va_P D vwCl [(a_this, .inr (8, [.int g_length, .ref a_text, .ref a_now, .ref a_before, .int g_undoMany, .ref a_read, .int g_spot, .ref a_first, .ref a_second, .ref a_sums, .ref a_other, .int g_step, .int g_coverMany, .ref a_grid, .ref a_order, .int g_leastSums, .int g_leastPart])), (a_now, .inl (cZ, 164, .inl y6)), (a_before, .inl (cZ, 984, .inl g_before)), (a_sums, .inl (cZ, 241, .inl g_sums))] H := by rw [ey6]; exact hP
        have hD : va_D A [(a_this, .inr (8, [.int g_length, .ref a_text, .ref a_now, .ref a_before, .int g_undoMany, .ref a_read, .int g_spot, .ref a_first, .ref a_second, .ref a_sums, .ref a_other, .int g_step, .int g_coverMany, .ref a_grid, .ref a_order, .int g_leastSums, .int g_leastPart])), (a_now, .inl (cZ, 164, .inl y6)), (a_before, .inl (cZ, 984, .inl g_before)), (a_sums, .inl (cZ, 241, .inl g_sums))] := by rw [ey6]; exact hD
        obtain ⟨y7, ey7⟩ : ∃ z : Int32, z = x2 + (1 : Int32) := ⟨_, rfl⟩
        have hf := lt_some hf y7 ey7
        refine lv_iinc (v := y7) (lv' := [(2, .int y7), (0, .ref a_this), (1, .int x1)]) hx hb dX8_becomes_29 hl (k := 2) rfl (by rw [ey7]; rfl) (by decide) rfl (fun ls hl => ?_)
        refine lv_goto (tgt := 6) hx hb dX8_becomes_32 (by decide) ?_
        cases hf
        exact ((congrFun eF6 _).mp hF) H locs ls hP hD hS (lv_sub hl [1, 2, 0] rfl)
    intro x2 g_now t H locs ls hf hF hP hD hS hl
    exact ((congrFun eF6 _).mp (key ((x2, g_now)) t hf hF)) H locs ls hP hD hS hl
  unfold fX8_becomes at hf
  obtain ⟨H, eH⟩ : ∃ z, z = s.heap := ⟨_, rfl⟩
  obtain ⟨locs, eL⟩ : ∃ z : List Loc, z = [] := ⟨_, rfl⟩
  have hP : va_P D vwCl [(a_this, .inr (8, [.int g_length, .ref a_text, .ref a_now, .ref a_before, .int g_undoMany, .ref a_read, .int g_spot, .ref a_first, .ref a_second, .ref a_sums, .ref a_other, .int g_step, .int g_coverMany, .ref a_grid, .ref a_order, .int g_leastSums, .int g_leastPart])), (a_now, .inl (cZ, 164, .inl g_now)), (a_before, .inl (cZ, 984, .inl g_before)), (a_sums, .inl (cZ, 241, .inl g_sums))] H := by rw [eH]; exact hP
  have hS : va_S A s.heap H locs := by rw [eH, eL]; exact hS
  suffices hG : W p l e rmX8_becomes s m ([.ref a_this, .int q1] : List Value).toArray below meth c H locs 0 0 (MQ below (cQi D r0 A [(a_this, .inr (8, [.int g_length, .ref a_text, .ref a_now, .ref a_before, .int v_undoMany, .ref a_read, .int g_spot, .ref a_first, .ref a_second, .ref a_sums, .ref a_other, .int g_step, .int g_coverMany, .ref a_grid, .ref a_order, .int g_leastSums, .int g_leastPart])), (a_now, .inl (cZ, 164, .inl v_now)), (a_before, .inl (cZ, 984, .inl v_before)), (a_sums, .inl (cZ, 241, .inl g_sums))]) ([.ref a_this, .int q1] : List Value).toArray s 0 0 A) (F0 m 0 ls []) by rw [eH, eL] at hG; exact hG
  refine lv_aload_n hx hb dX8_becomes_0 rfl (lv_at hl 0 rfl) ?_
  obtain ⟨u8, hu8, hf⟩ := bd_some hf
  refine caVV (rest := []) (As := []) (wr := [(a_sums, .inl (cZ, 241, .inl g_sums))]) (wo := [(a_this, .inr (8, [.int g_length, .ref a_text, .ref a_now, .ref a_before, .int u8.1, .ref a_read, .int g_spot, .ref a_first, .ref a_second, .ref a_sums, .ref a_other, .int g_step, .int g_coverMany, .ref a_grid, .ref a_order, .int g_leastSums, .int g_leastPart])), (a_now, .inl (cZ, 164, .inl g_now)), (a_before, .inl (cZ, 984, .inl u8.2)), (a_sums, .inl (cZ, 241, .inl g_sums))]) ⟨hx, hb, hml, hown, hts⟩ hN hP hD hS hA (cX8_note_ct l D cI cL cC cZ a_this a_text a_now a_before a_read a_first a_second a_sums a_other a_grid a_order g_length g_undoMany g_spot g_step g_coverMany g_leastSums g_leastPart g_now g_before u8.1 u8.2 hu8) z5 0 8 rfl rfl [0, 1, 2] [3] [1, 2, 3, 0] rfl (by decide) rfl (by decide) (by decide) rfl (by decide) rfl hl.1 rfl (Nat.le_of_ble_eq_true rfl) dX8_becomes_1 ⟨Nat.zero_le _, Nat.zero_le _⟩ (fun H locs hP hD hS => ?_)
  refine lv_iconst (v := 0) hx hb dX8_becomes_4 (by decide) ?_
  refine lv_istore_n (lv' := [(2, .int (0 : Int32)), (0, .ref a_this), (1, .int q1)]) hx hb dX8_becomes_5 rfl hl (by decide) rfl (fun ls hl => ?_)
  exact w6 q1 u8.1 u8.2 g_sums (0 : Int32) g_now (r0, v_undoMany, v_now, v_before) H locs ls hf rfl hP hD hS (lv_sub hl [1, 2, 0] rfl)
abbrev rmX8_becomeSums : Room := { frames := 2, cells := 0, slots := 0, locals := 51 }
noncomputable def bX8_becomeSums_35 (x1 : Int32) (g_undoMany : Int32) (g_now : Nat → Int32) (g_before : Nat → Int32) (g_first : Nat → Int32) (g_second : Nat → Int32) (g_sums : Nat → Int32) (x4 : Int32) : Option ((Int32) ⊕ (Int32 × Int32 × (Nat → Int32) × (Nat → Int32) × (Nat → Int32) × (Nat → Int32) × (Nat → Int32))) := br ((241 : Int32) ≤ x4) (bd (fX8_becomes x1 g_undoMany g_now g_before g_sums) (fun u2 => some (Sum.inr ((u2.1, u2.2.1, u2.2.2.1, u2.2.2.2, g_first, g_second, g_sums))))) (gd (¬ x4 < 0 ∧ x4.toNatClampNeg < 241) (br ((g_sums x4.toNatClampNeg) = 0) (lt_ (x4 + (1 : Int32)) (fun y5 => some (Sum.inl y5))) (some (Sum.inr (((-2 : Int32), g_undoMany, g_now, g_before, g_first, g_second, g_sums))))))
noncomputable def sX8_becomeSums_35 (x1 : Int32) (g_undoMany : Int32) (g_now : Nat → Int32) (g_before : Nat → Int32) (g_first : Nat → Int32) (g_second : Nat → Int32) (g_sums : Nat → Int32) : (Int32) → Option ((Int32) ⊕ (Int32 × Int32 × (Nat → Int32) × (Nat → Int32) × (Nat → Int32) × (Nat → Int32) × (Nat → Int32))) := fun q => bX8_becomeSums_35 x1 g_undoMany g_now g_before g_first g_second g_sums q
noncomputable def fX8_becomeSums (q1 : Int32) (q2 : Int32) (q3 : Int32) (g_undoMany : Int32) (g_now : Nat → Int32) (g_before : Nat → Int32) (g_first : Nat → Int32) (g_second : Nat → Int32) (g_sums : Nat → Int32) : Option (Int32 × Int32 × (Nat → Int32) × (Nat → Int32) × (Nat → Int32) × (Nat → Int32) × (Nat → Int32)) := bd (fX8_isSlot q1) (fun u6 => br (u6 = 0) (some (((-1 : Int32), g_undoMany, g_now, g_before, g_first, g_second, g_sums))) (bd (fX8_isSlot q2) (fun u8 => br (u8 = 0) (some (((-1 : Int32), g_undoMany, g_now, g_before, g_first, g_second, g_sums))) (bd (fX8_isSlot q3) (fun u10 => br (u10 = 0) (some (((-1 : Int32), g_undoMany, g_now, g_before, g_first, g_second, g_sums))) (bd (fX8_adds q2 q3 (1 : Int32) g_now g_first g_second g_sums) (fun u12 => run (sX8_becomeSums_35 q1 g_undoMany g_now g_before u12.2.1 u12.2.2.1 u12.2.2.2) (41 : Int32))))))))
set_option maxHeartbeats 4000000 in
set_option maxRecDepth 100000 in
theorem cX8_becomeSums_ct (l : Launch) (D : va_G) (cI cL cC cZ : ClassId) (a_this a_text a_now a_before a_read a_first a_second a_sums a_other a_grid a_order : Nat) (g_length : Int32) (g_undoMany : Int32) (g_spot : Int32) (g_step : Int32) (g_coverMany : Int32) (g_leastSums : Int32) (g_leastPart : Int32) (g_now : Nat → Int32) (g_before : Nat → Int32) (g_first : Nat → Int32) (g_second : Nat → Int32) (g_sums : Nat → Int32) (q1 : Int32) (q2 : Int32) (q3 : Int32) (r0 : Int32) (v_undoMany : Int32) (v_now : Nat → Int32) (v_before : Nat → Int32) (v_first : Nat → Int32) (v_second : Nat → Int32) (v_sums : Nat → Int32) (hf : fX8_becomeSums q1 q2 q3 g_undoMany g_now g_before g_first g_second g_sums = some ((r0, v_undoMany, v_now, v_before, v_first, v_second, v_sums))) : CtI l yX8_becomeSums wsX8_becomeSums rmX8_becomeSums D (tyz cI cL cC cZ) [.ref a_this, .int q1, .int q2, .int q3] [(a_this, .inr (8, [.int g_length, .ref a_text, .ref a_now, .ref a_before, .int g_undoMany, .ref a_read, .int g_spot, .ref a_first, .ref a_second, .ref a_sums, .ref a_other, .int g_step, .int g_coverMany, .ref a_grid, .ref a_order, .int g_leastSums, .int g_leastPart])), (a_now, .inl (cZ, 164, .inl g_now)), (a_before, .inl (cZ, 984, .inl g_before)), (a_first, .inl (cI, 41, .inl g_first)), (a_second, .inl (cI, 41, .inl g_second)), (a_sums, .inl (cZ, 241, .inl g_sums))] [(a_this, .inr (8, [.int g_length, .ref a_text, .ref a_now, .ref a_before, .int v_undoMany, .ref a_read, .int g_spot, .ref a_first, .ref a_second, .ref a_sums, .ref a_other, .int g_step, .int g_coverMany, .ref a_grid, .ref a_order, .int g_leastSums, .int g_leastPart])), (a_now, .inl (cZ, 164, .inl v_now)), (a_before, .inl (cZ, 984, .inl v_before)), (a_first, .inl (cI, 41, .inl v_first)), (a_second, .inl (cI, 41, .inl v_second)), (a_sums, .inl (cZ, 241, .inl v_sums))] r0 := by
  refine CtI.make (cc := cX8_becomeSums) (maxL := 5) (ty := .int) (by decide) rfl (Nat.le_of_ble_eq_true rfl) ?_
  intro p e s m below meth c A ls C0 hN hA hP hD hl
  obtain ⟨hx, hb, hr, hml, hown, hts, hlk⟩ := id C0
  have hown : s.vm.findClass RX8 = some m.cls := hown
  have hS : va_S A s.heap s.heap [] := va_S.rf
  have hP : va_P D vwCl [(a_this, .inr (8, [.int g_length, .ref a_text, .ref a_now, .ref a_before, .int g_undoMany, .ref a_read, .int g_spot, .ref a_first, .ref a_second, .ref a_sums, .ref a_other, .int g_step, .int g_coverMany, .ref a_grid, .ref a_order, .int g_leastSums, .int g_leastPart])), (a_now, .inl (cZ, 164, .inl g_now)), (a_before, .inl (cZ, 984, .inl g_before)), (a_first, .inl (cI, 41, .inl g_first)), (a_second, .inl (cI, 41, .inl g_second)), (a_sums, .inl (cZ, 241, .inl g_sums))] s.heap := hP
  have hD : va_D A [(a_this, .inr (8, [.int g_length, .ref a_text, .ref a_now, .ref a_before, .int g_undoMany, .ref a_read, .int g_spot, .ref a_first, .ref a_second, .ref a_sums, .ref a_other, .int g_step, .int g_coverMany, .ref a_grid, .ref a_order, .int g_leastSums, .int g_leastPart])), (a_now, .inl (cZ, 164, .inl g_now)), (a_before, .inl (cZ, 984, .inl g_before)), (a_first, .inl (cI, 41, .inl g_first)), (a_second, .inl (cI, 41, .inl g_second)), (a_sums, .inl (cZ, 241, .inl g_sums))] := hD
  have hl : lv_has ls 5 [(0, .ref a_this), (1, .int q1), (2, .int q2), (3, .int q3)] := hl
  have z1 := cwV (R := rmX8_becomeSums) (rm := rmX8_becomes) (mc := 0) (ms := 0) 1 hts gX8_becomeSums_X8_becomes rfl rfl rfl (by decide +kernel) ⟨Nat.le_of_ble_eq_true rfl, Nat.le_of_ble_eq_true rfl⟩
  have z2 : ∀ w ∈ u_ws RX8 TX8 17, w ∈ wsX8_becomeSums := by decide +kernel
  have z3 := hts (.fieldLink RX8 29 "LittleSumsModel" "sums" "[Z") (by decide +kernel)
  have z4 := va_cwS (R := rmX8_becomeSums) (rm := rmX8_isSlot) (mc := 0) (ms := 0) 1 hts gX8_becomeSums_X8_isSlot rfl rfl rfl (by decide +kernel) ⟨Nat.le_of_ble_eq_true rfl, Nat.le_of_ble_eq_true rfl⟩
  have z5 := cwV (R := rmX8_becomeSums) (rm := rmX8_adds) (mc := 0) (ms := 0) 3 hts gX8_becomeSums_X8_adds rfl rfl rfl (by decide +kernel) ⟨Nat.le_of_ble_eq_true rfl, Nat.le_of_ble_eq_true rfl⟩
  have w35 : ∀ (x1 : Int32) (g_undoMany : Int32) (g_now : Nat → Int32) (g_before : Nat → Int32) (g_first : Nat → Int32) (g_second : Nat → Int32) (g_sums : Nat → Int32) (x4 : Int32) (t : Int32 × Int32 × (Nat → Int32) × (Nat → Int32) × (Nat → Int32) × (Nat → Int32) × (Nat → Int32)) (H : Heap) (locs : List Loc) (ls : Array Slot), run (sX8_becomeSums_35 x1 g_undoMany g_now g_before g_first g_second g_sums) x4 = some t → (fun z => z = (r0, v_undoMany, v_now, v_before, v_first, v_second, v_sums)) t → va_P D vwCl [(a_this, .inr (8, [.int g_length, .ref a_text, .ref a_now, .ref a_before, .int g_undoMany, .ref a_read, .int g_spot, .ref a_first, .ref a_second, .ref a_sums, .ref a_other, .int g_step, .int g_coverMany, .ref a_grid, .ref a_order, .int g_leastSums, .int g_leastPart])), (a_now, .inl (cZ, 164, .inl g_now)), (a_before, .inl (cZ, 984, .inl g_before)), (a_first, .inl (cI, 41, .inl g_first)), (a_second, .inl (cI, 41, .inl g_second)), (a_sums, .inl (cZ, 241, .inl g_sums))] H → va_D A [(a_this, .inr (8, [.int g_length, .ref a_text, .ref a_now, .ref a_before, .int g_undoMany, .ref a_read, .int g_spot, .ref a_first, .ref a_second, .ref a_sums, .ref a_other, .int g_step, .int g_coverMany, .ref a_grid, .ref a_order, .int g_leastSums, .int g_leastPart])), (a_now, .inl (cZ, 164, .inl g_now)), (a_before, .inl (cZ, 984, .inl g_before)), (a_first, .inl (cI, 41, .inl g_first)), (a_second, .inl (cI, 41, .inl g_second)), (a_sums, .inl (cZ, 241, .inl g_sums))] → va_S A s.heap H locs → lv_has ls 5 [(0, .ref a_this), (1, .int x1), (4, .int x4)] → W p l e rmX8_becomeSums s m ([.ref a_this, .int q1, .int q2, .int q3] : List Value).toArray below meth c H locs 0 0 (MQ below (cQi D r0 A [(a_this, .inr (8, [.int g_length, .ref a_text, .ref a_now, .ref a_before, .int v_undoMany, .ref a_read, .int g_spot, .ref a_first, .ref a_second, .ref a_sums, .ref a_other, .int g_step, .int g_coverMany, .ref a_grid, .ref a_order, .int g_leastSums, .int g_leastPart])), (a_now, .inl (cZ, 164, .inl v_now)), (a_before, .inl (cZ, 984, .inl v_before)), (a_first, .inl (cI, 41, .inl v_first)), (a_second, .inl (cI, 41, .inl v_second)), (a_sums, .inl (cZ, 241, .inl v_sums))]) ([.ref a_this, .int q1, .int q2, .int q3] : List Value).toArray s 0 0 A) (F0 m 35 ls []) := by
    intro x1 g_undoMany g_now g_before g_first g_second g_sums
    obtain ⟨F35, eF35⟩ : ∃ F : (Int32) → Prop, F = fun q => ∀ (H : Heap) (locs : List Loc) (ls : Array Slot), va_P D vwCl [(a_this, .inr (8, [.int g_length, .ref a_text, .ref a_now, .ref a_before, .int g_undoMany, .ref a_read, .int g_spot, .ref a_first, .ref a_second, .ref a_sums, .ref a_other, .int g_step, .int g_coverMany, .ref a_grid, .ref a_order, .int g_leastSums, .int g_leastPart])), (a_now, .inl (cZ, 164, .inl g_now)), (a_before, .inl (cZ, 984, .inl g_before)), (a_first, .inl (cI, 41, .inl g_first)), (a_second, .inl (cI, 41, .inl g_second)), (a_sums, .inl (cZ, 241, .inl g_sums))] H → va_D A [(a_this, .inr (8, [.int g_length, .ref a_text, .ref a_now, .ref a_before, .int g_undoMany, .ref a_read, .int g_spot, .ref a_first, .ref a_second, .ref a_sums, .ref a_other, .int g_step, .int g_coverMany, .ref a_grid, .ref a_order, .int g_leastSums, .int g_leastPart])), (a_now, .inl (cZ, 164, .inl g_now)), (a_before, .inl (cZ, 984, .inl g_before)), (a_first, .inl (cI, 41, .inl g_first)), (a_second, .inl (cI, 41, .inl g_second)), (a_sums, .inl (cZ, 241, .inl g_sums))] → va_S A s.heap H locs → lv_has ls 5 [(0, .ref a_this), (1, .int x1), (4, .int q)] → W p l e rmX8_becomeSums s m ([.ref a_this, .int q1, .int q2, .int q3] : List Value).toArray below meth c H locs 0 0 (MQ below (cQi D r0 A [(a_this, .inr (8, [.int g_length, .ref a_text, .ref a_now, .ref a_before, .int v_undoMany, .ref a_read, .int g_spot, .ref a_first, .ref a_second, .ref a_sums, .ref a_other, .int g_step, .int g_coverMany, .ref a_grid, .ref a_order, .int g_leastSums, .int g_leastPart])), (a_now, .inl (cZ, 164, .inl v_now)), (a_before, .inl (cZ, 984, .inl v_before)), (a_first, .inl (cI, 41, .inl v_first)), (a_second, .inl (cI, 41, .inl v_second)), (a_sums, .inl (cZ, 241, .inl v_sums))]) ([.ref a_this, .int q1, .int q2, .int q3] : List Value).toArray s 0 0 A) (F0 m 35 ls []) := ⟨_, rfl⟩
    have key : ∀ (q : Int32) (t : Int32 × Int32 × (Nat → Int32) × (Nat → Int32) × (Nat → Int32) × (Nat → Int32) × (Nat → Int32)), run (sX8_becomeSums_35 x1 g_undoMany g_now g_before g_first g_second g_sums) q = some t → (fun z => z = (r0, v_undoMany, v_now, v_before, v_first, v_second, v_sums)) t → F35 q := by
      refine loop_rule (sX8_becomeSums_35 x1 g_undoMany g_now g_before g_first g_second g_sums) F35 (fun z => z = (r0, v_undoMany, v_now, v_before, v_first, v_second, v_sums)) ?_
      intro q t hf hF
      have hF : (Sum.elim F35 (fun z => z = (r0, v_undoMany, v_now, v_before, v_first, v_second, v_sums))) t := hF
      rw [eF35]
      obtain ⟨x4, rfl⟩ : ∃ z, z = q := ⟨_, rfl⟩
      intro H locs ls hP hD hS hl
      have hP : va_P D vwCl [(a_this, .inr (8, [.int g_length, .ref a_text, .ref a_now, .ref a_before, .int g_undoMany, .ref a_read, .int g_spot, .ref a_first, .ref a_second, .ref a_sums, .ref a_other, .int g_step, .int g_coverMany, .ref a_grid, .ref a_order, .int g_leastSums, .int g_leastPart])), (a_now, .inl (cZ, 164, .inl g_now)), (a_before, .inl (cZ, 984, .inl g_before)), (a_first, .inl (cI, 41, .inl g_first)), (a_second, .inl (cI, 41, .inl g_second)), (a_sums, .inl (cZ, 241, .inl g_sums))] H := hP
      have hD : va_D A [(a_this, .inr (8, [.int g_length, .ref a_text, .ref a_now, .ref a_before, .int g_undoMany, .ref a_read, .int g_spot, .ref a_first, .ref a_second, .ref a_sums, .ref a_other, .int g_step, .int g_coverMany, .ref a_grid, .ref a_order, .int g_leastSums, .int g_leastPart])), (a_now, .inl (cZ, 164, .inl g_now)), (a_before, .inl (cZ, 984, .inl g_before)), (a_first, .inl (cI, 41, .inl g_first)), (a_second, .inl (cI, 41, .inl g_second)), (a_sums, .inl (cZ, 241, .inl g_sums))] := hD
      have hl : lv_has ls 5 [(0, .ref a_this), (1, .int x1), (4, .int x4)] := hl
      have hf : bX8_becomeSums_35 x1 g_undoMany g_now g_before g_first g_second g_sums x4 = some t := hf
      unfold bX8_becomeSums_35 at hf
      refine lv_iload hx hb dX8_becomeSums_35 (lv_at hl 2 rfl) ?_
      refine lv_sipush (v := 241) hx hb dX8_becomeSums_37 (by decide) ?_
      refine lv_icmp_ge (tgt := 62) hx hb dX8_becomeSums_40 (by decide) (fun c1 => ?_) (fun c1 => ?_)
      · have hf := br_pos c1 hf
        refine lv_aload_n hx hb dX8_becomeSums_62 rfl (lv_at hl 0 rfl) ?_
        refine lv_iload_n hx hb dX8_becomeSums_63 rfl (lv_at hl 1 rfl) ?_
        obtain ⟨u2, hu2, hf⟩ := bd_some hf
        refine caVI (rest := []) (As := [.int x1]) (wr := [(a_first, .inl (cI, 41, .inl g_first)), (a_second, .inl (cI, 41, .inl g_second))]) (wo := [(a_this, .inr (8, [.int g_length, .ref a_text, .ref a_now, .ref a_before, .int u2.2.1, .ref a_read, .int g_spot, .ref a_first, .ref a_second, .ref a_sums, .ref a_other, .int g_step, .int g_coverMany, .ref a_grid, .ref a_order, .int g_leastSums, .int g_leastPart])), (a_now, .inl (cZ, 164, .inl u2.2.2.1)), (a_before, .inl (cZ, 984, .inl u2.2.2.2)), (a_first, .inl (cI, 41, .inl g_first)), (a_second, .inl (cI, 41, .inl g_second)), (a_sums, .inl (cZ, 241, .inl g_sums))]) ⟨hx, hb, hml, hown, hts⟩ hN hP hD hS hA (cX8_becomes_ct l D cI cL cC cZ a_this a_text a_now a_before a_read a_first a_second a_sums a_other a_grid a_order g_length g_undoMany g_spot g_step g_coverMany g_leastSums g_leastPart g_now g_before g_sums x1 u2.1 u2.2.1 u2.2.2.1 u2.2.2.2 hu2) z1 0 8 rfl rfl [0, 1, 2, 5] [3, 4] [2, 3, 4, 0, 1, 5] rfl (by decide) rfl (by decide) (by decide) rfl (by decide) rfl hl.1 rfl (Nat.le_of_ble_eq_true rfl) dX8_becomeSums_64 ⟨Nat.zero_le _, Nat.zero_le _⟩ (fun H locs hP hD hS => ?_)
        cases hf
        have hE : (u2.1, u2.2.1, u2.2.2.1, u2.2.2.2, g_first, g_second, g_sums) = (r0, v_undoMany, v_now, v_before, v_first, v_second, v_sums) := hF
        simp only [Prod.mk.injEq] at hE
        obtain ⟨rfl, rfl, rfl, rfl, rfl, rfl, rfl⟩ := hE
        exact rtI hx hb hr hlk hP hD hS dX8_becomeSums_67
      · have hf := br_neg c1 hf
        refine lv_aload_n hx hb dX8_becomeSums_43 rfl (lv_at hl 0 rfl) ?_
        refine va_get (D := D) (ci := 8) (v := .ref a_sums) (C := RX8) (T := TX8) (N := 17) hx hb hts z2 hown hN.1 hP 0 rfl rfl 9 (by decide) z3 (fun _ h9 => h9) rfl dX8_becomeSums_44 ?_
        refine lv_iload hx hb dX8_becomeSums_47 (lv_at hl 2 rfl) ?_
        obtain ⟨c3, hf⟩ := gd_some hf
        refine va_zald hx hb hN.1 hP 5 3 rfl rfl (ix_in c3) dX8_becomeSums_49 ?_
        refine lv_if_eq (tgt := 56) hx hb dX8_becomeSums_50 (by decide) (fun c4 => ?_) (fun c4 => ?_)
        · have hf := br_pos c4 hf
          obtain ⟨y5, ey5⟩ : ∃ z : Int32, z = x4 + (1 : Int32) := ⟨_, rfl⟩
          have hf := lt_some hf y5 ey5
          refine lv_iinc (v := y5) (lv' := [(4, .int y5), (0, .ref a_this), (1, .int x1)]) hx hb dX8_becomeSums_56 hl (k := 2) rfl (by rw [ey5]; rfl) (by decide) rfl (fun ls hl => ?_)
          refine lv_goto (tgt := 35) hx hb dX8_becomeSums_59 (by decide) ?_
          cases hf
          exact ((congrFun eF35 _).mp hF) H locs ls hP hD hS (lv_sub hl [1, 2, 0] rfl)
        · have hf := br_neg c4 hf
          refine lv_bipush (v := -2) hx hb dX8_becomeSums_53 (by decide) ?_
          cases hf
          have hE : ((-2 : Int32), g_undoMany, g_now, g_before, g_first, g_second, g_sums) = (r0, v_undoMany, v_now, v_before, v_first, v_second, v_sums) := hF
          simp only [Prod.mk.injEq] at hE
          obtain ⟨rfl, rfl, rfl, rfl, rfl, rfl, rfl⟩ := hE
          exact rtI hx hb hr hlk hP hD hS dX8_becomeSums_55
    intro x4 t H locs ls hf hF hP hD hS hl
    exact ((congrFun eF35 _).mp (key x4 t hf hF)) H locs ls hP hD hS hl
  unfold fX8_becomeSums at hf
  obtain ⟨H, eH⟩ : ∃ z, z = s.heap := ⟨_, rfl⟩
  obtain ⟨locs, eL⟩ : ∃ z : List Loc, z = [] := ⟨_, rfl⟩
  have hP : va_P D vwCl [(a_this, .inr (8, [.int g_length, .ref a_text, .ref a_now, .ref a_before, .int g_undoMany, .ref a_read, .int g_spot, .ref a_first, .ref a_second, .ref a_sums, .ref a_other, .int g_step, .int g_coverMany, .ref a_grid, .ref a_order, .int g_leastSums, .int g_leastPart])), (a_now, .inl (cZ, 164, .inl g_now)), (a_before, .inl (cZ, 984, .inl g_before)), (a_first, .inl (cI, 41, .inl g_first)), (a_second, .inl (cI, 41, .inl g_second)), (a_sums, .inl (cZ, 241, .inl g_sums))] H := by rw [eH]; exact hP
  have hS : va_S A s.heap H locs := by rw [eH, eL]; exact hS
  suffices hG : W p l e rmX8_becomeSums s m ([.ref a_this, .int q1, .int q2, .int q3] : List Value).toArray below meth c H locs 0 0 (MQ below (cQi D r0 A [(a_this, .inr (8, [.int g_length, .ref a_text, .ref a_now, .ref a_before, .int v_undoMany, .ref a_read, .int g_spot, .ref a_first, .ref a_second, .ref a_sums, .ref a_other, .int g_step, .int g_coverMany, .ref a_grid, .ref a_order, .int g_leastSums, .int g_leastPart])), (a_now, .inl (cZ, 164, .inl v_now)), (a_before, .inl (cZ, 984, .inl v_before)), (a_first, .inl (cI, 41, .inl v_first)), (a_second, .inl (cI, 41, .inl v_second)), (a_sums, .inl (cZ, 241, .inl v_sums))]) ([.ref a_this, .int q1, .int q2, .int q3] : List Value).toArray s 0 0 A) (F0 m 0 ls []) by rw [eH, eL] at hG; exact hG
  refine lv_iload_n hx hb dX8_becomeSums_0 rfl (lv_at hl 1 rfl) ?_
  obtain ⟨u6, hu6, hf⟩ := bd_some hf
  refine caSI (rest := []) (As := [.int q1]) (wr := [(a_this, .inr (8, [.int g_length, .ref a_text, .ref a_now, .ref a_before, .int g_undoMany, .ref a_read, .int g_spot, .ref a_first, .ref a_second, .ref a_sums, .ref a_other, .int g_step, .int g_coverMany, .ref a_grid, .ref a_order, .int g_leastSums, .int g_leastPart])), (a_now, .inl (cZ, 164, .inl g_now)), (a_before, .inl (cZ, 984, .inl g_before)), (a_first, .inl (cI, 41, .inl g_first)), (a_second, .inl (cI, 41, .inl g_second)), (a_sums, .inl (cZ, 241, .inl g_sums))]) (wo := [(a_this, .inr (8, [.int g_length, .ref a_text, .ref a_now, .ref a_before, .int g_undoMany, .ref a_read, .int g_spot, .ref a_first, .ref a_second, .ref a_sums, .ref a_other, .int g_step, .int g_coverMany, .ref a_grid, .ref a_order, .int g_leastSums, .int g_leastPart])), (a_now, .inl (cZ, 164, .inl g_now)), (a_before, .inl (cZ, 984, .inl g_before)), (a_first, .inl (cI, 41, .inl g_first)), (a_second, .inl (cI, 41, .inl g_second)), (a_sums, .inl (cZ, 241, .inl g_sums))]) ⟨hx, hb, hml, hown, hts⟩ hN hP hD hS hA (cX8_isSlot_ct l D cI cL cC cZ q1 u6 hu6) z4 [] [0, 1, 2, 3, 4, 5] [0, 1, 2, 3, 4, 5] rfl (by decide) rfl (by decide) (by decide) rfl (by decide) rfl hl.1 rfl (Nat.le_of_ble_eq_true rfl) dX8_becomeSums_1 ⟨Nat.zero_le _, Nat.zero_le _⟩ (fun H locs hP hD hS => ?_)
  refine lv_if_eq (tgt := 21) hx hb dX8_becomeSums_4 (by decide) (fun c7 => ?_) (fun c7 => ?_)
  · have hf := br_pos c7 hf
    refine lv_iconst (v := -1) hx hb dX8_becomeSums_21 (by decide) ?_
    have hE : ((-1 : Int32), g_undoMany, g_now, g_before, g_first, g_second, g_sums) = (r0, v_undoMany, v_now, v_before, v_first, v_second, v_sums) := Option.some.inj hf
    simp only [Prod.mk.injEq] at hE
    obtain ⟨rfl, rfl, rfl, rfl, rfl, rfl, rfl⟩ := hE
    exact rtI hx hb hr hlk hP hD hS dX8_becomeSums_22
  · have hf := br_neg c7 hf
    refine lv_iload_n hx hb dX8_becomeSums_7 rfl (lv_at hl 2 rfl) ?_
    obtain ⟨u8, hu8, hf⟩ := bd_some hf
    refine caSI (rest := []) (As := [.int q2]) (wr := [(a_this, .inr (8, [.int g_length, .ref a_text, .ref a_now, .ref a_before, .int g_undoMany, .ref a_read, .int g_spot, .ref a_first, .ref a_second, .ref a_sums, .ref a_other, .int g_step, .int g_coverMany, .ref a_grid, .ref a_order, .int g_leastSums, .int g_leastPart])), (a_now, .inl (cZ, 164, .inl g_now)), (a_before, .inl (cZ, 984, .inl g_before)), (a_first, .inl (cI, 41, .inl g_first)), (a_second, .inl (cI, 41, .inl g_second)), (a_sums, .inl (cZ, 241, .inl g_sums))]) (wo := [(a_this, .inr (8, [.int g_length, .ref a_text, .ref a_now, .ref a_before, .int g_undoMany, .ref a_read, .int g_spot, .ref a_first, .ref a_second, .ref a_sums, .ref a_other, .int g_step, .int g_coverMany, .ref a_grid, .ref a_order, .int g_leastSums, .int g_leastPart])), (a_now, .inl (cZ, 164, .inl g_now)), (a_before, .inl (cZ, 984, .inl g_before)), (a_first, .inl (cI, 41, .inl g_first)), (a_second, .inl (cI, 41, .inl g_second)), (a_sums, .inl (cZ, 241, .inl g_sums))]) ⟨hx, hb, hml, hown, hts⟩ hN hP hD hS hA (cX8_isSlot_ct l D cI cL cC cZ q2 u8 hu8) z4 [] [0, 1, 2, 3, 4, 5] [0, 1, 2, 3, 4, 5] rfl (by decide) rfl (by decide) (by decide) rfl (by decide) rfl hl.1 rfl (Nat.le_of_ble_eq_true rfl) dX8_becomeSums_8 ⟨Nat.zero_le _, Nat.zero_le _⟩ (fun H locs hP hD hS => ?_)
    refine lv_if_eq (tgt := 21) hx hb dX8_becomeSums_11 (by decide) (fun c9 => ?_) (fun c9 => ?_)
    · have hf := br_pos c9 hf
      refine lv_iconst (v := -1) hx hb dX8_becomeSums_21 (by decide) ?_
      have hE : ((-1 : Int32), g_undoMany, g_now, g_before, g_first, g_second, g_sums) = (r0, v_undoMany, v_now, v_before, v_first, v_second, v_sums) := Option.some.inj hf
      simp only [Prod.mk.injEq] at hE
      obtain ⟨rfl, rfl, rfl, rfl, rfl, rfl, rfl⟩ := hE
      exact rtI hx hb hr hlk hP hD hS dX8_becomeSums_22
    · have hf := br_neg c9 hf
      refine lv_iload_n hx hb dX8_becomeSums_14 rfl (lv_at hl 3 rfl) ?_
      obtain ⟨u10, hu10, hf⟩ := bd_some hf
      refine caSI (rest := []) (As := [.int q3]) (wr := [(a_this, .inr (8, [.int g_length, .ref a_text, .ref a_now, .ref a_before, .int g_undoMany, .ref a_read, .int g_spot, .ref a_first, .ref a_second, .ref a_sums, .ref a_other, .int g_step, .int g_coverMany, .ref a_grid, .ref a_order, .int g_leastSums, .int g_leastPart])), (a_now, .inl (cZ, 164, .inl g_now)), (a_before, .inl (cZ, 984, .inl g_before)), (a_first, .inl (cI, 41, .inl g_first)), (a_second, .inl (cI, 41, .inl g_second)), (a_sums, .inl (cZ, 241, .inl g_sums))]) (wo := [(a_this, .inr (8, [.int g_length, .ref a_text, .ref a_now, .ref a_before, .int g_undoMany, .ref a_read, .int g_spot, .ref a_first, .ref a_second, .ref a_sums, .ref a_other, .int g_step, .int g_coverMany, .ref a_grid, .ref a_order, .int g_leastSums, .int g_leastPart])), (a_now, .inl (cZ, 164, .inl g_now)), (a_before, .inl (cZ, 984, .inl g_before)), (a_first, .inl (cI, 41, .inl g_first)), (a_second, .inl (cI, 41, .inl g_second)), (a_sums, .inl (cZ, 241, .inl g_sums))]) ⟨hx, hb, hml, hown, hts⟩ hN hP hD hS hA (cX8_isSlot_ct l D cI cL cC cZ q3 u10 hu10) z4 [] [0, 1, 2, 3, 4, 5] [0, 1, 2, 3, 4, 5] rfl (by decide) rfl (by decide) (by decide) rfl (by decide) rfl hl.1 rfl (Nat.le_of_ble_eq_true rfl) dX8_becomeSums_15 ⟨Nat.zero_le _, Nat.zero_le _⟩ (fun H locs hP hD hS => ?_)
      refine lv_if_ne (tgt := 23) hx hb dX8_becomeSums_18 (by decide) (fun c11 => ?_) (fun c11 => ?_)
      · have hf := br_neg c11 hf
        refine lv_aload_n hx hb dX8_becomeSums_23 rfl (lv_at hl 0 rfl) ?_
        refine lv_iload_n hx hb dX8_becomeSums_24 rfl (lv_at hl 2 rfl) ?_
        refine lv_iload_n hx hb dX8_becomeSums_25 rfl (lv_at hl 3 rfl) ?_
        refine lv_iconst (v := 1) hx hb dX8_becomeSums_26 (by decide) ?_
        obtain ⟨u12, hu12, hf⟩ := bd_some hf
        refine caVI (rest := []) (As := [.int q2, .int q3, .int (1 : Int32)]) (wr := [(a_before, .inl (cZ, 984, .inl g_before))]) (wo := [(a_this, .inr (8, [.int g_length, .ref a_text, .ref a_now, .ref a_before, .int g_undoMany, .ref a_read, .int g_spot, .ref a_first, .ref a_second, .ref a_sums, .ref a_other, .int g_step, .int g_coverMany, .ref a_grid, .ref a_order, .int g_leastSums, .int g_leastPart])), (a_now, .inl (cZ, 164, .inl g_now)), (a_before, .inl (cZ, 984, .inl g_before)), (a_first, .inl (cI, 41, .inl u12.2.1)), (a_second, .inl (cI, 41, .inl u12.2.2.1)), (a_sums, .inl (cZ, 241, .inl u12.2.2.2))]) ⟨hx, hb, hml, hown, hts⟩ hN hP hD hS hA (cX8_adds_ct l D cI cL cC cZ a_this a_text a_now a_before a_read a_first a_second a_sums a_other a_grid a_order g_length g_undoMany g_spot g_step g_coverMany g_leastSums g_leastPart g_now g_first g_second g_sums q2 q3 (1 : Int32) u12.1 u12.2.1 u12.2.2.1 u12.2.2.2 hu12) z5 0 8 rfl rfl [0, 1, 3, 4, 5] [2] [1, 2, 0, 3, 4, 5] rfl (by decide) rfl (by decide) (by decide) rfl (by decide) rfl hl.1 rfl (Nat.le_of_ble_eq_true rfl) dX8_becomeSums_27 ⟨Nat.zero_le _, Nat.zero_le _⟩ (fun H locs hP hD hS => ?_)
        refine lv_pop hx hb dX8_becomeSums_30 rfl ?_
        refine lv_bipush (v := 41) hx hb dX8_becomeSums_31 (by decide) ?_
        refine lv_istore (lv' := [(4, .int (41 : Int32)), (0, .ref a_this), (1, .int q1), (2, .int q2), (3, .int q3)]) hx hb dX8_becomeSums_33 hl (by decide) rfl (fun ls hl => ?_)
        exact w35 q1 g_undoMany g_now g_before u12.2.1 u12.2.2.1 u12.2.2.2 (41 : Int32) (r0, v_undoMany, v_now, v_before, v_first, v_second, v_sums) H locs ls hf rfl hP hD hS (lv_sub hl [1, 2, 0] rfl)
      · have hf := br_pos c11 hf
        refine lv_iconst (v := -1) hx hb dX8_becomeSums_21 (by decide) ?_
        have hE : ((-1 : Int32), g_undoMany, g_now, g_before, g_first, g_second, g_sums) = (r0, v_undoMany, v_now, v_before, v_first, v_second, v_sums) := Option.some.inj hf
        simp only [Prod.mk.injEq] at hE
        obtain ⟨rfl, rfl, rfl, rfl, rfl, rfl, rfl⟩ := hE
        exact rtI hx hb hr hlk hP hD hS dX8_becomeSums_22
abbrev rmX8_move : Room := { frames := 2, cells := 0, slots := 0, locals := 45 }
noncomputable def bX8_move_82 (x1 : Int32) (x3 : Int32) (x4 : Int32) (x5 : Int32) (g_undoMany : Int32) (g_now : Nat → Int32) (g_before : Nat → Int32) (g_first : Nat → Int32) (x6 : Int32) (g_sums : Nat → Int32) : Option ((Int32 × (Nat → Int32)) ⊕ (Int32 × Int32 × (Nat → Int32) × (Nat → Int32) × (Nat → Int32) × (Nat → Int32))) := br (x5 ≤ x6) (bd (fX8_becomes x1 g_undoMany g_now g_before g_sums) (fun u2 => some (Sum.inr ((u2.1, u2.2.1, u2.2.2.1, u2.2.2.2, g_first, g_sums))))) (gd (¬ x6 < 0 ∧ x6.toNatClampNeg < 41) (lt_ ((x3 * (g_first x6.toNatClampNeg)) + x4) (fun y4 => bd (fX8_in y4.toInt64 (0 : Int64) (40 : Int64)) (fun u5 => br (u5 = 0) (some (Sum.inr (((-2 : Int32), g_undoMany, g_now, g_before, g_first, g_sums)))) (gd (¬ y4 < 0 ∧ y4.toNatClampNeg < 241) (lt_ (upd g_sums y4.toNatClampNeg (vp_nar .boolean (1 : Int32))) (fun y8 => lt_ (x6 + (1 : Int32)) (fun y9 => some (Sum.inl ((y9, y8)))))))))))
noncomputable def sX8_move_82 (x1 : Int32) (x3 : Int32) (x4 : Int32) (x5 : Int32) (g_undoMany : Int32) (g_now : Nat → Int32) (g_before : Nat → Int32) (g_first : Nat → Int32) : (Int32 × (Nat → Int32)) → Option ((Int32 × (Nat → Int32)) ⊕ (Int32 × Int32 × (Nat → Int32) × (Nat → Int32) × (Nat → Int32) × (Nat → Int32))) := fun q => bX8_move_82 x1 x3 x4 x5 g_undoMany g_now g_before g_first q.1 q.2
noncomputable def bX8_move_57 (x1 : Int32) (x3 : Int32) (x4 : Int32) (x5 : Int32) (g_undoMany : Int32) (g_now : Nat → Int32) (g_before : Nat → Int32) (g_first : Nat → Int32) (x6 : Int32) (g_sums : Nat → Int32) : Option ((Int32 × (Nat → Int32)) ⊕ (Int32 × Int32 × (Nat → Int32) × (Nat → Int32) × (Nat → Int32) × (Nat → Int32))) := br ((241 : Int32) ≤ x6) (ml (run (sX8_move_82 x1 x3 x4 x5 g_undoMany g_now g_before g_first) (((0 : Int32), g_sums)))) (gd (¬ x6 < 0 ∧ x6.toNatClampNeg < 241) (lt_ (upd g_sums x6.toNatClampNeg (vp_nar .boolean (0 : Int32))) (fun y13 => lt_ (x6 + (1 : Int32)) (fun y14 => some (Sum.inl ((y14, y13)))))))
noncomputable def sX8_move_57 (x1 : Int32) (x3 : Int32) (x4 : Int32) (x5 : Int32) (g_undoMany : Int32) (g_now : Nat → Int32) (g_before : Nat → Int32) (g_first : Nat → Int32) : (Int32 × (Nat → Int32)) → Option ((Int32 × (Nat → Int32)) ⊕ (Int32 × Int32 × (Nat → Int32) × (Nat → Int32) × (Nat → Int32) × (Nat → Int32))) := fun q => bX8_move_57 x1 x3 x4 x5 g_undoMany g_now g_before g_first q.1 q.2
noncomputable def fX8_move (q1 : Int32) (q2 : Int32) (q3 : Int32) (q4 : Int32) (g_undoMany : Int32) (g_now : Nat → Int32) (g_before : Nat → Int32) (g_first : Nat → Int32) (g_sums : Nat → Int32) : Option (Int32 × Int32 × (Nat → Int32) × (Nat → Int32) × (Nat → Int32) × (Nat → Int32)) := bd (fX8_isSlot q1) (fun u15 => br (u15 = 0) (some (((-1 : Int32), g_undoMany, g_now, g_before, g_first, g_sums))) (bd (fX8_isSlot q2) (fun u17 => br (u17 = 0) (some (((-1 : Int32), g_undoMany, g_now, g_before, g_first, g_sums))) (bd (fX8_in q3.toInt64 (1 : Int64) (9 : Int64)) (fun u19 => br (u19 = 0) (some (((-1 : Int32), g_undoMany, g_now, g_before, g_first, g_sums))) (bd (fX8_in q4.toInt64 (-40 : Int64) (40 : Int64)) (fun u21 => br (u21 = 0) (some (((-1 : Int32), g_undoMany, g_now, g_before, g_first, g_sums))) (bd (fX8_lists q2 41 g_now g_first) (fun u23 => run (sX8_move_57 q1 q3 q4 u23.1 g_undoMany g_now g_before u23.2) (((0 : Int32), g_sums)))))))))))
set_option maxHeartbeats 4000000 in
set_option maxRecDepth 100000 in
theorem cX8_move_ct (l : Launch) (D : va_G) (cI cL cC cZ : ClassId) (a_this a_text a_now a_before a_read a_first a_second a_sums a_other a_grid a_order : Nat) (g_length : Int32) (g_undoMany : Int32) (g_spot : Int32) (g_step : Int32) (g_coverMany : Int32) (g_leastSums : Int32) (g_leastPart : Int32) (g_now : Nat → Int32) (g_before : Nat → Int32) (g_first : Nat → Int32) (g_sums : Nat → Int32) (q1 : Int32) (q2 : Int32) (q3 : Int32) (q4 : Int32) (r0 : Int32) (v_undoMany : Int32) (v_now : Nat → Int32) (v_before : Nat → Int32) (v_first : Nat → Int32) (v_sums : Nat → Int32) (hf : fX8_move q1 q2 q3 q4 g_undoMany g_now g_before g_first g_sums = some ((r0, v_undoMany, v_now, v_before, v_first, v_sums))) : CtI l yX8_move wsX8_move rmX8_move D (tyz cI cL cC cZ) [.ref a_this, .int q1, .int q2, .int q3, .int q4] [(a_this, .inr (8, [.int g_length, .ref a_text, .ref a_now, .ref a_before, .int g_undoMany, .ref a_read, .int g_spot, .ref a_first, .ref a_second, .ref a_sums, .ref a_other, .int g_step, .int g_coverMany, .ref a_grid, .ref a_order, .int g_leastSums, .int g_leastPart])), (a_now, .inl (cZ, 164, .inl g_now)), (a_before, .inl (cZ, 984, .inl g_before)), (a_first, .inl (cI, 41, .inl g_first)), (a_sums, .inl (cZ, 241, .inl g_sums))] [(a_this, .inr (8, [.int g_length, .ref a_text, .ref a_now, .ref a_before, .int v_undoMany, .ref a_read, .int g_spot, .ref a_first, .ref a_second, .ref a_sums, .ref a_other, .int g_step, .int g_coverMany, .ref a_grid, .ref a_order, .int g_leastSums, .int g_leastPart])), (a_now, .inl (cZ, 164, .inl v_now)), (a_before, .inl (cZ, 984, .inl v_before)), (a_first, .inl (cI, 41, .inl v_first)), (a_sums, .inl (cZ, 241, .inl v_sums))] r0 := by
  refine CtI.make (cc := cX8_move) (maxL := 8) (ty := .int) (by decide) rfl (Nat.le_of_ble_eq_true rfl) ?_
  intro p e s m below meth c A ls C0 hN hA hP hD hl
  obtain ⟨hx, hb, hr, hml, hown, hts, hlk⟩ := id C0
  have hown : s.vm.findClass RX8 = some m.cls := hown
  have hS : va_S A s.heap s.heap [] := va_S.rf
  have hP : va_P D vwCl [(a_this, .inr (8, [.int g_length, .ref a_text, .ref a_now, .ref a_before, .int g_undoMany, .ref a_read, .int g_spot, .ref a_first, .ref a_second, .ref a_sums, .ref a_other, .int g_step, .int g_coverMany, .ref a_grid, .ref a_order, .int g_leastSums, .int g_leastPart])), (a_now, .inl (cZ, 164, .inl g_now)), (a_before, .inl (cZ, 984, .inl g_before)), (a_first, .inl (cI, 41, .inl g_first)), (a_sums, .inl (cZ, 241, .inl g_sums))] s.heap := hP
  have hD : va_D A [(a_this, .inr (8, [.int g_length, .ref a_text, .ref a_now, .ref a_before, .int g_undoMany, .ref a_read, .int g_spot, .ref a_first, .ref a_second, .ref a_sums, .ref a_other, .int g_step, .int g_coverMany, .ref a_grid, .ref a_order, .int g_leastSums, .int g_leastPart])), (a_now, .inl (cZ, 164, .inl g_now)), (a_before, .inl (cZ, 984, .inl g_before)), (a_first, .inl (cI, 41, .inl g_first)), (a_sums, .inl (cZ, 241, .inl g_sums))] := hD
  have hl : lv_has ls 8 [(0, .ref a_this), (1, .int q1), (2, .int q2), (3, .int q3), (4, .int q4)] := hl
  have z1 := cwV (R := rmX8_move) (rm := rmX8_becomes) (mc := 0) (ms := 0) 1 hts gX8_move_X8_becomes rfl rfl rfl (by decide +kernel) ⟨Nat.le_of_ble_eq_true rfl, Nat.le_of_ble_eq_true rfl⟩
  have z2 : ∀ w ∈ u_ws RX8 TX8 17, w ∈ wsX8_move := by decide +kernel
  have z3 := hts (.fieldLink RX8 23 "LittleSumsModel" "first" "[I") (by decide +kernel)
  have z4 := hts (.constantLong RX8 90 (40)) (by decide +kernel)
  have z5 := va_cwS (R := rmX8_move) (rm := rmX8_in) (mc := 0) (ms := 0) 3 hts gX8_move_X8_in rfl rfl rfl (by decide +kernel) ⟨Nat.le_of_ble_eq_true rfl, Nat.le_of_ble_eq_true rfl⟩
  have z6 := hts (.fieldLink RX8 29 "LittleSumsModel" "sums" "[Z") (by decide +kernel)
  have z7 := va_cwS (R := rmX8_move) (rm := rmX8_isSlot) (mc := 0) (ms := 0) 1 hts gX8_move_X8_isSlot rfl rfl rfl (by decide +kernel) ⟨Nat.le_of_ble_eq_true rfl, Nat.le_of_ble_eq_true rfl⟩
  have z8 := hts (.constantLong RX8 114 (9)) (by decide +kernel)
  have z9 := hts (.constantLong RX8 116 (-40)) (by decide +kernel)
  have z10 := cwV (R := rmX8_move) (rm := rmX8_lists) (mc := 0) (ms := 0) 2 hts gX8_move_X8_lists rfl rfl rfl (by decide +kernel) ⟨Nat.le_of_ble_eq_true rfl, Nat.le_of_ble_eq_true rfl⟩
  have w82 : ∀ (x1 : Int32) (x3 : Int32) (x4 : Int32) (x5 : Int32) (g_undoMany : Int32) (g_now : Nat → Int32) (g_before : Nat → Int32) (g_first : Nat → Int32) (x6 : Int32) (g_sums : Nat → Int32) (t : Int32 × Int32 × (Nat → Int32) × (Nat → Int32) × (Nat → Int32) × (Nat → Int32)) (H : Heap) (locs : List Loc) (ls : Array Slot), run (sX8_move_82 x1 x3 x4 x5 g_undoMany g_now g_before g_first) ((x6, g_sums)) = some t → (fun z => z = (r0, v_undoMany, v_now, v_before, v_first, v_sums)) t → va_P D vwCl [(a_this, .inr (8, [.int g_length, .ref a_text, .ref a_now, .ref a_before, .int g_undoMany, .ref a_read, .int g_spot, .ref a_first, .ref a_second, .ref a_sums, .ref a_other, .int g_step, .int g_coverMany, .ref a_grid, .ref a_order, .int g_leastSums, .int g_leastPart])), (a_now, .inl (cZ, 164, .inl g_now)), (a_before, .inl (cZ, 984, .inl g_before)), (a_first, .inl (cI, 41, .inl g_first)), (a_sums, .inl (cZ, 241, .inl g_sums))] H → va_D A [(a_this, .inr (8, [.int g_length, .ref a_text, .ref a_now, .ref a_before, .int g_undoMany, .ref a_read, .int g_spot, .ref a_first, .ref a_second, .ref a_sums, .ref a_other, .int g_step, .int g_coverMany, .ref a_grid, .ref a_order, .int g_leastSums, .int g_leastPart])), (a_now, .inl (cZ, 164, .inl g_now)), (a_before, .inl (cZ, 984, .inl g_before)), (a_first, .inl (cI, 41, .inl g_first)), (a_sums, .inl (cZ, 241, .inl g_sums))] → va_S A s.heap H locs → lv_has ls 8 [(0, .ref a_this), (1, .int x1), (3, .int x3), (4, .int x4), (5, .int x5), (6, .int x6)] → W p l e rmX8_move s m ([.ref a_this, .int q1, .int q2, .int q3, .int q4] : List Value).toArray below meth c H locs 0 0 (MQ below (cQi D r0 A [(a_this, .inr (8, [.int g_length, .ref a_text, .ref a_now, .ref a_before, .int v_undoMany, .ref a_read, .int g_spot, .ref a_first, .ref a_second, .ref a_sums, .ref a_other, .int g_step, .int g_coverMany, .ref a_grid, .ref a_order, .int g_leastSums, .int g_leastPart])), (a_now, .inl (cZ, 164, .inl v_now)), (a_before, .inl (cZ, 984, .inl v_before)), (a_first, .inl (cI, 41, .inl v_first)), (a_sums, .inl (cZ, 241, .inl v_sums))]) ([.ref a_this, .int q1, .int q2, .int q3, .int q4] : List Value).toArray s 0 0 A) (F0 m 82 ls []) := by
    intro x1 x3 x4 x5 g_undoMany g_now g_before g_first
    obtain ⟨F82, eF82⟩ : ∃ F : (Int32 × (Nat → Int32)) → Prop, F = fun q => ∀ (H : Heap) (locs : List Loc) (ls : Array Slot), va_P D vwCl [(a_this, .inr (8, [.int g_length, .ref a_text, .ref a_now, .ref a_before, .int g_undoMany, .ref a_read, .int g_spot, .ref a_first, .ref a_second, .ref a_sums, .ref a_other, .int g_step, .int g_coverMany, .ref a_grid, .ref a_order, .int g_leastSums, .int g_leastPart])), (a_now, .inl (cZ, 164, .inl g_now)), (a_before, .inl (cZ, 984, .inl g_before)), (a_first, .inl (cI, 41, .inl g_first)), (a_sums, .inl (cZ, 241, .inl q.2))] H → va_D A [(a_this, .inr (8, [.int g_length, .ref a_text, .ref a_now, .ref a_before, .int g_undoMany, .ref a_read, .int g_spot, .ref a_first, .ref a_second, .ref a_sums, .ref a_other, .int g_step, .int g_coverMany, .ref a_grid, .ref a_order, .int g_leastSums, .int g_leastPart])), (a_now, .inl (cZ, 164, .inl g_now)), (a_before, .inl (cZ, 984, .inl g_before)), (a_first, .inl (cI, 41, .inl g_first)), (a_sums, .inl (cZ, 241, .inl q.2))] → va_S A s.heap H locs → lv_has ls 8 [(0, .ref a_this), (1, .int x1), (3, .int x3), (4, .int x4), (5, .int x5), (6, .int q.1)] → W p l e rmX8_move s m ([.ref a_this, .int q1, .int q2, .int q3, .int q4] : List Value).toArray below meth c H locs 0 0 (MQ below (cQi D r0 A [(a_this, .inr (8, [.int g_length, .ref a_text, .ref a_now, .ref a_before, .int v_undoMany, .ref a_read, .int g_spot, .ref a_first, .ref a_second, .ref a_sums, .ref a_other, .int g_step, .int g_coverMany, .ref a_grid, .ref a_order, .int g_leastSums, .int g_leastPart])), (a_now, .inl (cZ, 164, .inl v_now)), (a_before, .inl (cZ, 984, .inl v_before)), (a_first, .inl (cI, 41, .inl v_first)), (a_sums, .inl (cZ, 241, .inl v_sums))]) ([.ref a_this, .int q1, .int q2, .int q3, .int q4] : List Value).toArray s 0 0 A) (F0 m 82 ls []) := ⟨_, rfl⟩
    have key : ∀ (q : Int32 × (Nat → Int32)) (t : Int32 × Int32 × (Nat → Int32) × (Nat → Int32) × (Nat → Int32) × (Nat → Int32)), run (sX8_move_82 x1 x3 x4 x5 g_undoMany g_now g_before g_first) q = some t → (fun z => z = (r0, v_undoMany, v_now, v_before, v_first, v_sums)) t → F82 q := by
      refine loop_rule (sX8_move_82 x1 x3 x4 x5 g_undoMany g_now g_before g_first) F82 (fun z => z = (r0, v_undoMany, v_now, v_before, v_first, v_sums)) ?_
      intro q t hf hF
      have hF : (Sum.elim F82 (fun z => z = (r0, v_undoMany, v_now, v_before, v_first, v_sums))) t := hF
      rw [eF82]
      obtain ⟨x6, g_sums⟩ := q
      intro H locs ls hP hD hS hl
      have hP : va_P D vwCl [(a_this, .inr (8, [.int g_length, .ref a_text, .ref a_now, .ref a_before, .int g_undoMany, .ref a_read, .int g_spot, .ref a_first, .ref a_second, .ref a_sums, .ref a_other, .int g_step, .int g_coverMany, .ref a_grid, .ref a_order, .int g_leastSums, .int g_leastPart])), (a_now, .inl (cZ, 164, .inl g_now)), (a_before, .inl (cZ, 984, .inl g_before)), (a_first, .inl (cI, 41, .inl g_first)), (a_sums, .inl (cZ, 241, .inl g_sums))] H := hP
      have hD : va_D A [(a_this, .inr (8, [.int g_length, .ref a_text, .ref a_now, .ref a_before, .int g_undoMany, .ref a_read, .int g_spot, .ref a_first, .ref a_second, .ref a_sums, .ref a_other, .int g_step, .int g_coverMany, .ref a_grid, .ref a_order, .int g_leastSums, .int g_leastPart])), (a_now, .inl (cZ, 164, .inl g_now)), (a_before, .inl (cZ, 984, .inl g_before)), (a_first, .inl (cI, 41, .inl g_first)), (a_sums, .inl (cZ, 241, .inl g_sums))] := hD
      have hl : lv_has ls 8 [(0, .ref a_this), (1, .int x1), (3, .int x3), (4, .int x4), (5, .int x5), (6, .int x6)] := hl
      have hf : bX8_move_82 x1 x3 x4 x5 g_undoMany g_now g_before g_first x6 g_sums = some t := hf
      unfold bX8_move_82 at hf
      refine lv_iload hx hb dX8_move_82 (lv_at hl 5 rfl) ?_
      refine lv_iload hx hb dX8_move_84 (lv_at hl 4 rfl) ?_
      refine lv_icmp_ge (tgt := 133) hx hb dX8_move_86 (by decide) (fun c1 => ?_) (fun c1 => ?_)
      · have hf := br_pos c1 hf
        refine lv_aload_n hx hb dX8_move_133 rfl (lv_at hl 0 rfl) ?_
        refine lv_iload_n hx hb dX8_move_134 rfl (lv_at hl 1 rfl) ?_
        obtain ⟨u2, hu2, hf⟩ := bd_some hf
        refine caVI (rest := []) (As := [.int x1]) (wr := [(a_first, .inl (cI, 41, .inl g_first))]) (wo := [(a_this, .inr (8, [.int g_length, .ref a_text, .ref a_now, .ref a_before, .int u2.2.1, .ref a_read, .int g_spot, .ref a_first, .ref a_second, .ref a_sums, .ref a_other, .int g_step, .int g_coverMany, .ref a_grid, .ref a_order, .int g_leastSums, .int g_leastPart])), (a_now, .inl (cZ, 164, .inl u2.2.2.1)), (a_before, .inl (cZ, 984, .inl u2.2.2.2)), (a_first, .inl (cI, 41, .inl g_first)), (a_sums, .inl (cZ, 241, .inl g_sums))]) ⟨hx, hb, hml, hown, hts⟩ hN hP hD hS hA (cX8_becomes_ct l D cI cL cC cZ a_this a_text a_now a_before a_read a_first a_second a_sums a_other a_grid a_order g_length g_undoMany g_spot g_step g_coverMany g_leastSums g_leastPart g_now g_before g_sums x1 u2.1 u2.2.1 u2.2.2.1 u2.2.2.2 hu2) z1 0 8 rfl rfl [0, 1, 2, 4] [3] [1, 2, 3, 0, 4] rfl (by decide) rfl (by decide) (by decide) rfl (by decide) rfl hl.1 rfl (Nat.le_of_ble_eq_true rfl) dX8_move_135 ⟨Nat.zero_le _, Nat.zero_le _⟩ (fun H locs hP hD hS => ?_)
        cases hf
        have hE : (u2.1, u2.2.1, u2.2.2.1, u2.2.2.2, g_first, g_sums) = (r0, v_undoMany, v_now, v_before, v_first, v_sums) := hF
        simp only [Prod.mk.injEq] at hE
        obtain ⟨rfl, rfl, rfl, rfl, rfl, rfl⟩ := hE
        exact rtI hx hb hr hlk hP hD hS dX8_move_138
      · have hf := br_neg c1 hf
        refine lv_iload_n hx hb dX8_move_89 rfl (lv_at hl 2 rfl) ?_
        refine lv_aload_n hx hb dX8_move_90 rfl (lv_at hl 0 rfl) ?_
        refine va_get (D := D) (ci := 8) (v := .ref a_first) (C := RX8) (T := TX8) (N := 17) hx hb hts z2 hown hN.1 hP 0 rfl rfl 7 (by decide) z3 (fun _ h9 => h9) rfl dX8_move_91 ?_
        refine lv_iload hx hb dX8_move_94 (lv_at hl 5 rfl) ?_
        obtain ⟨c3, hf⟩ := gd_some hf
        refine va_iald hx hb hN.1 hP 3 0 rfl rfl (ix_in c3) dX8_move_96 ?_
        refine lv_imul hx hb dX8_move_97 ?_
        refine lv_iload hx hb dX8_move_98 (lv_at hl 3 rfl) ?_
        refine lv_iadd hx hb dX8_move_100 ?_
        refine lv_topi (fun y4 ey4 => ?_)
        have hf := lt_some hf y4 ey4
        refine lv_istore (lv' := [(7, .int y4), (0, .ref a_this), (1, .int x1), (3, .int x3), (4, .int x4), (5, .int x5), (6, .int x6)]) hx hb dX8_move_101 hl (by decide) rfl (fun ls hl => ?_)
        refine lv_iload hx hb dX8_move_103 (lv_at hl 0 rfl) ?_
        refine lv_i2l hx hb dX8_move_105 rfl ?_
        refine lv_lconst (v := 0) hx hb dX8_move_106 (by decide) ?_
        refine lv_ldc2 (v := 40) hx hb hown z4 dX8_move_107 ?_
        obtain ⟨u5, hu5, hf⟩ := bd_some hf
        refine caSI (rest := []) (As := [.long y4.toInt64, .long (0 : Int64), .long (40 : Int64)]) (wr := [(a_this, .inr (8, [.int g_length, .ref a_text, .ref a_now, .ref a_before, .int g_undoMany, .ref a_read, .int g_spot, .ref a_first, .ref a_second, .ref a_sums, .ref a_other, .int g_step, .int g_coverMany, .ref a_grid, .ref a_order, .int g_leastSums, .int g_leastPart])), (a_now, .inl (cZ, 164, .inl g_now)), (a_before, .inl (cZ, 984, .inl g_before)), (a_first, .inl (cI, 41, .inl g_first)), (a_sums, .inl (cZ, 241, .inl g_sums))]) (wo := [(a_this, .inr (8, [.int g_length, .ref a_text, .ref a_now, .ref a_before, .int g_undoMany, .ref a_read, .int g_spot, .ref a_first, .ref a_second, .ref a_sums, .ref a_other, .int g_step, .int g_coverMany, .ref a_grid, .ref a_order, .int g_leastSums, .int g_leastPart])), (a_now, .inl (cZ, 164, .inl g_now)), (a_before, .inl (cZ, 984, .inl g_before)), (a_first, .inl (cI, 41, .inl g_first)), (a_sums, .inl (cZ, 241, .inl g_sums))]) ⟨hx, hb, hml, hown, hts⟩ hN hP hD hS hA (cX8_in_ct l D cI cL cC cZ y4.toInt64 (0 : Int64) (40 : Int64) u5 hu5) z5 [] [0, 1, 2, 3, 4] [0, 1, 2, 3, 4] rfl (by decide) rfl (by decide) (by decide) rfl (by decide) rfl hl.1 rfl (Nat.le_of_ble_eq_true rfl) dX8_move_110 ⟨Nat.zero_le _, Nat.zero_le _⟩ (fun H locs hP hD hS => ?_)
        refine lv_if_ne (tgt := 119) hx hb dX8_move_113 (by decide) (fun c6 => ?_) (fun c6 => ?_)
        · have hf := br_neg c6 hf
          refine lv_aload_n hx hb dX8_move_119 rfl (lv_at hl 1 rfl) ?_
          refine va_get (D := D) (ci := 8) (v := .ref a_sums) (C := RX8) (T := TX8) (N := 17) hx hb hts z2 hown hN.1 hP 0 rfl rfl 9 (by decide) z6 (fun _ h9 => h9) rfl dX8_move_120 ?_
          refine lv_iload hx hb dX8_move_123 (lv_at hl 0 rfl) ?_
          refine lv_iconst (v := 1) hx hb dX8_move_125 (by decide) ?_
          obtain ⟨c7, hf⟩ := gd_some hf
          refine va_zast hx hb hN.1 hP hD hS 4 3 rfl rfl (ix_in c7) dX8_move_126 (fun H locs hP hD hS => ?_)
          obtain ⟨y8, ey8⟩ : ∃ z, z = upd g_sums y4.toNatClampNeg (vp_nar .boolean (1 : Int32)) := ⟨_, rfl⟩
          have hf := lt_some hf y8 ey8
          have hP : va_P D vwCl [(a_this, .inr (8, [.int g_length, .ref a_text, .ref a_now, .ref a_before, .int g_undoMany, .ref a_read, .int g_spot, .ref a_first, .ref a_second, .ref a_sums, .ref a_other, .int g_step, .int g_coverMany, .ref a_grid, .ref a_order, .int g_leastSums, .int g_leastPart])), (a_now, .inl (cZ, 164, .inl g_now)), (a_before, .inl (cZ, 984, .inl g_before)), (a_first, .inl (cI, 41, .inl g_first)), (a_sums, .inl (cZ, 241, .inl y8))] H := by rw [ey8]; exact hP
          have hD : va_D A [(a_this, .inr (8, [.int g_length, .ref a_text, .ref a_now, .ref a_before, .int g_undoMany, .ref a_read, .int g_spot, .ref a_first, .ref a_second, .ref a_sums, .ref a_other, .int g_step, .int g_coverMany, .ref a_grid, .ref a_order, .int g_leastSums, .int g_leastPart])), (a_now, .inl (cZ, 164, .inl g_now)), (a_before, .inl (cZ, 984, .inl g_before)), (a_first, .inl (cI, 41, .inl g_first)), (a_sums, .inl (cZ, 241, .inl y8))] := by rw [ey8]; exact hD
          obtain ⟨y9, ey9⟩ : ∃ z : Int32, z = x6 + (1 : Int32) := ⟨_, rfl⟩
          have hf := lt_some hf y9 ey9
          refine lv_iinc (v := y9) (lv' := [(6, .int y9), (7, .int y4), (0, .ref a_this), (1, .int x1), (3, .int x3), (4, .int x4), (5, .int x5)]) hx hb dX8_move_127 hl (k := 6) rfl (by rw [ey9]; rfl) (by decide) rfl (fun ls hl => ?_)
          refine lv_goto (tgt := 82) hx hb dX8_move_130 (by decide) ?_
          cases hf
          exact ((congrFun eF82 _).mp hF) H locs ls hP hD hS (lv_sub hl [2, 3, 4, 5, 6, 0] rfl)
        · have hf := br_pos c6 hf
          refine lv_bipush (v := -2) hx hb dX8_move_116 (by decide) ?_
          cases hf
          have hE : ((-2 : Int32), g_undoMany, g_now, g_before, g_first, g_sums) = (r0, v_undoMany, v_now, v_before, v_first, v_sums) := hF
          simp only [Prod.mk.injEq] at hE
          obtain ⟨rfl, rfl, rfl, rfl, rfl, rfl⟩ := hE
          exact rtI hx hb hr hlk hP hD hS dX8_move_118
    intro x6 g_sums t H locs ls hf hF hP hD hS hl
    exact ((congrFun eF82 _).mp (key ((x6, g_sums)) t hf hF)) H locs ls hP hD hS hl
  have w57 : ∀ (x1 : Int32) (x3 : Int32) (x4 : Int32) (x5 : Int32) (g_undoMany : Int32) (g_now : Nat → Int32) (g_before : Nat → Int32) (g_first : Nat → Int32) (x6 : Int32) (g_sums : Nat → Int32) (t : Int32 × Int32 × (Nat → Int32) × (Nat → Int32) × (Nat → Int32) × (Nat → Int32)) (H : Heap) (locs : List Loc) (ls : Array Slot), run (sX8_move_57 x1 x3 x4 x5 g_undoMany g_now g_before g_first) ((x6, g_sums)) = some t → (fun z => z = (r0, v_undoMany, v_now, v_before, v_first, v_sums)) t → va_P D vwCl [(a_this, .inr (8, [.int g_length, .ref a_text, .ref a_now, .ref a_before, .int g_undoMany, .ref a_read, .int g_spot, .ref a_first, .ref a_second, .ref a_sums, .ref a_other, .int g_step, .int g_coverMany, .ref a_grid, .ref a_order, .int g_leastSums, .int g_leastPart])), (a_now, .inl (cZ, 164, .inl g_now)), (a_before, .inl (cZ, 984, .inl g_before)), (a_first, .inl (cI, 41, .inl g_first)), (a_sums, .inl (cZ, 241, .inl g_sums))] H → va_D A [(a_this, .inr (8, [.int g_length, .ref a_text, .ref a_now, .ref a_before, .int g_undoMany, .ref a_read, .int g_spot, .ref a_first, .ref a_second, .ref a_sums, .ref a_other, .int g_step, .int g_coverMany, .ref a_grid, .ref a_order, .int g_leastSums, .int g_leastPart])), (a_now, .inl (cZ, 164, .inl g_now)), (a_before, .inl (cZ, 984, .inl g_before)), (a_first, .inl (cI, 41, .inl g_first)), (a_sums, .inl (cZ, 241, .inl g_sums))] → va_S A s.heap H locs → lv_has ls 8 [(0, .ref a_this), (1, .int x1), (3, .int x3), (4, .int x4), (5, .int x5), (6, .int x6)] → W p l e rmX8_move s m ([.ref a_this, .int q1, .int q2, .int q3, .int q4] : List Value).toArray below meth c H locs 0 0 (MQ below (cQi D r0 A [(a_this, .inr (8, [.int g_length, .ref a_text, .ref a_now, .ref a_before, .int v_undoMany, .ref a_read, .int g_spot, .ref a_first, .ref a_second, .ref a_sums, .ref a_other, .int g_step, .int g_coverMany, .ref a_grid, .ref a_order, .int g_leastSums, .int g_leastPart])), (a_now, .inl (cZ, 164, .inl v_now)), (a_before, .inl (cZ, 984, .inl v_before)), (a_first, .inl (cI, 41, .inl v_first)), (a_sums, .inl (cZ, 241, .inl v_sums))]) ([.ref a_this, .int q1, .int q2, .int q3, .int q4] : List Value).toArray s 0 0 A) (F0 m 57 ls []) := by
    intro x1 x3 x4 x5 g_undoMany g_now g_before g_first
    obtain ⟨F57, eF57⟩ : ∃ F : (Int32 × (Nat → Int32)) → Prop, F = fun q => ∀ (H : Heap) (locs : List Loc) (ls : Array Slot), va_P D vwCl [(a_this, .inr (8, [.int g_length, .ref a_text, .ref a_now, .ref a_before, .int g_undoMany, .ref a_read, .int g_spot, .ref a_first, .ref a_second, .ref a_sums, .ref a_other, .int g_step, .int g_coverMany, .ref a_grid, .ref a_order, .int g_leastSums, .int g_leastPart])), (a_now, .inl (cZ, 164, .inl g_now)), (a_before, .inl (cZ, 984, .inl g_before)), (a_first, .inl (cI, 41, .inl g_first)), (a_sums, .inl (cZ, 241, .inl q.2))] H → va_D A [(a_this, .inr (8, [.int g_length, .ref a_text, .ref a_now, .ref a_before, .int g_undoMany, .ref a_read, .int g_spot, .ref a_first, .ref a_second, .ref a_sums, .ref a_other, .int g_step, .int g_coverMany, .ref a_grid, .ref a_order, .int g_leastSums, .int g_leastPart])), (a_now, .inl (cZ, 164, .inl g_now)), (a_before, .inl (cZ, 984, .inl g_before)), (a_first, .inl (cI, 41, .inl g_first)), (a_sums, .inl (cZ, 241, .inl q.2))] → va_S A s.heap H locs → lv_has ls 8 [(0, .ref a_this), (1, .int x1), (3, .int x3), (4, .int x4), (5, .int x5), (6, .int q.1)] → W p l e rmX8_move s m ([.ref a_this, .int q1, .int q2, .int q3, .int q4] : List Value).toArray below meth c H locs 0 0 (MQ below (cQi D r0 A [(a_this, .inr (8, [.int g_length, .ref a_text, .ref a_now, .ref a_before, .int v_undoMany, .ref a_read, .int g_spot, .ref a_first, .ref a_second, .ref a_sums, .ref a_other, .int g_step, .int g_coverMany, .ref a_grid, .ref a_order, .int g_leastSums, .int g_leastPart])), (a_now, .inl (cZ, 164, .inl v_now)), (a_before, .inl (cZ, 984, .inl v_before)), (a_first, .inl (cI, 41, .inl v_first)), (a_sums, .inl (cZ, 241, .inl v_sums))]) ([.ref a_this, .int q1, .int q2, .int q3, .int q4] : List Value).toArray s 0 0 A) (F0 m 57 ls []) := ⟨_, rfl⟩
    have key : ∀ (q : Int32 × (Nat → Int32)) (t : Int32 × Int32 × (Nat → Int32) × (Nat → Int32) × (Nat → Int32) × (Nat → Int32)), run (sX8_move_57 x1 x3 x4 x5 g_undoMany g_now g_before g_first) q = some t → (fun z => z = (r0, v_undoMany, v_now, v_before, v_first, v_sums)) t → F57 q := by
      refine loop_rule (sX8_move_57 x1 x3 x4 x5 g_undoMany g_now g_before g_first) F57 (fun z => z = (r0, v_undoMany, v_now, v_before, v_first, v_sums)) ?_
      intro q t hf hF
      have hF : (Sum.elim F57 (fun z => z = (r0, v_undoMany, v_now, v_before, v_first, v_sums))) t := hF
      rw [eF57]
      obtain ⟨x6, g_sums⟩ := q
      intro H locs ls hP hD hS hl
      have hP : va_P D vwCl [(a_this, .inr (8, [.int g_length, .ref a_text, .ref a_now, .ref a_before, .int g_undoMany, .ref a_read, .int g_spot, .ref a_first, .ref a_second, .ref a_sums, .ref a_other, .int g_step, .int g_coverMany, .ref a_grid, .ref a_order, .int g_leastSums, .int g_leastPart])), (a_now, .inl (cZ, 164, .inl g_now)), (a_before, .inl (cZ, 984, .inl g_before)), (a_first, .inl (cI, 41, .inl g_first)), (a_sums, .inl (cZ, 241, .inl g_sums))] H := hP
      have hD : va_D A [(a_this, .inr (8, [.int g_length, .ref a_text, .ref a_now, .ref a_before, .int g_undoMany, .ref a_read, .int g_spot, .ref a_first, .ref a_second, .ref a_sums, .ref a_other, .int g_step, .int g_coverMany, .ref a_grid, .ref a_order, .int g_leastSums, .int g_leastPart])), (a_now, .inl (cZ, 164, .inl g_now)), (a_before, .inl (cZ, 984, .inl g_before)), (a_first, .inl (cI, 41, .inl g_first)), (a_sums, .inl (cZ, 241, .inl g_sums))] := hD
      have hl : lv_has ls 8 [(0, .ref a_this), (1, .int x1), (3, .int x3), (4, .int x4), (5, .int x5), (6, .int x6)] := hl
      have hf : bX8_move_57 x1 x3 x4 x5 g_undoMany g_now g_before g_first x6 g_sums = some t := hf
      unfold bX8_move_57 at hf
      refine lv_iload hx hb dX8_move_57 (lv_at hl 5 rfl) ?_
      refine lv_sipush (v := 241) hx hb dX8_move_59 (by decide) ?_
      refine lv_icmp_ge (tgt := 79) hx hb dX8_move_62 (by decide) (fun c10 => ?_) (fun c10 => ?_)
      · have hf := br_pos c10 hf
        refine lv_iconst (v := 0) hx hb dX8_move_79 (by decide) ?_
        refine lv_istore (lv' := [(6, .int (0 : Int32)), (0, .ref a_this), (1, .int x1), (3, .int x3), (4, .int x4), (5, .int x5)]) hx hb dX8_move_80 hl (by decide) rfl (fun ls hl => ?_)
        obtain ⟨t11, hf, hF⟩ := ml_fin hf hF
        have hF : t11 = (r0, v_undoMany, v_now, v_before, v_first, v_sums) := hF
        rw [hF] at hf
        exact w82 x1 x3 x4 x5 g_undoMany g_now g_before g_first (0 : Int32) g_sums (r0, v_undoMany, v_now, v_before, v_first, v_sums) H locs ls hf rfl hP hD hS (lv_sub hl [1, 2, 3, 4, 5, 0] rfl)
      · have hf := br_neg c10 hf
        refine lv_aload_n hx hb dX8_move_65 rfl (lv_at hl 0 rfl) ?_
        refine va_get (D := D) (ci := 8) (v := .ref a_sums) (C := RX8) (T := TX8) (N := 17) hx hb hts z2 hown hN.1 hP 0 rfl rfl 9 (by decide) z6 (fun _ h9 => h9) rfl dX8_move_66 ?_
        refine lv_iload hx hb dX8_move_69 (lv_at hl 5 rfl) ?_
        refine lv_iconst (v := 0) hx hb dX8_move_71 (by decide) ?_
        obtain ⟨c12, hf⟩ := gd_some hf
        refine va_zast hx hb hN.1 hP hD hS 4 3 rfl rfl (ix_in c12) dX8_move_72 (fun H locs hP hD hS => ?_)
        obtain ⟨y13, ey13⟩ : ∃ z, z = upd g_sums x6.toNatClampNeg (vp_nar .boolean (0 : Int32)) := ⟨_, rfl⟩
        have hf := lt_some hf y13 ey13
        have hP : va_P D vwCl [(a_this, .inr (8, [.int g_length, .ref a_text, .ref a_now, .ref a_before, .int g_undoMany, .ref a_read, .int g_spot, .ref a_first, .ref a_second, .ref a_sums, .ref a_other, .int g_step, .int g_coverMany, .ref a_grid, .ref a_order, .int g_leastSums, .int g_leastPart])), (a_now, .inl (cZ, 164, .inl g_now)), (a_before, .inl (cZ, 984, .inl g_before)), (a_first, .inl (cI, 41, .inl g_first)), (a_sums, .inl (cZ, 241, .inl y13))] H := by rw [ey13]; exact hP
        have hD : va_D A [(a_this, .inr (8, [.int g_length, .ref a_text, .ref a_now, .ref a_before, .int g_undoMany, .ref a_read, .int g_spot, .ref a_first, .ref a_second, .ref a_sums, .ref a_other, .int g_step, .int g_coverMany, .ref a_grid, .ref a_order, .int g_leastSums, .int g_leastPart])), (a_now, .inl (cZ, 164, .inl g_now)), (a_before, .inl (cZ, 984, .inl g_before)), (a_first, .inl (cI, 41, .inl g_first)), (a_sums, .inl (cZ, 241, .inl y13))] := by rw [ey13]; exact hD
        obtain ⟨y14, ey14⟩ : ∃ z : Int32, z = x6 + (1 : Int32) := ⟨_, rfl⟩
        have hf := lt_some hf y14 ey14
        refine lv_iinc (v := y14) (lv' := [(6, .int y14), (0, .ref a_this), (1, .int x1), (3, .int x3), (4, .int x4), (5, .int x5)]) hx hb dX8_move_73 hl (k := 5) rfl (by rw [ey14]; rfl) (by decide) rfl (fun ls hl => ?_)
        refine lv_goto (tgt := 57) hx hb dX8_move_76 (by decide) ?_
        cases hf
        exact ((congrFun eF57 _).mp hF) H locs ls hP hD hS (lv_sub hl [1, 2, 3, 4, 5, 0] rfl)
    intro x6 g_sums t H locs ls hf hF hP hD hS hl
    exact ((congrFun eF57 _).mp (key ((x6, g_sums)) t hf hF)) H locs ls hP hD hS hl
  unfold fX8_move at hf
  obtain ⟨H, eH⟩ : ∃ z, z = s.heap := ⟨_, rfl⟩
  obtain ⟨locs, eL⟩ : ∃ z : List Loc, z = [] := ⟨_, rfl⟩
  have hP : va_P D vwCl [(a_this, .inr (8, [.int g_length, .ref a_text, .ref a_now, .ref a_before, .int g_undoMany, .ref a_read, .int g_spot, .ref a_first, .ref a_second, .ref a_sums, .ref a_other, .int g_step, .int g_coverMany, .ref a_grid, .ref a_order, .int g_leastSums, .int g_leastPart])), (a_now, .inl (cZ, 164, .inl g_now)), (a_before, .inl (cZ, 984, .inl g_before)), (a_first, .inl (cI, 41, .inl g_first)), (a_sums, .inl (cZ, 241, .inl g_sums))] H := by rw [eH]; exact hP
  have hS : va_S A s.heap H locs := by rw [eH, eL]; exact hS
  suffices hG : W p l e rmX8_move s m ([.ref a_this, .int q1, .int q2, .int q3, .int q4] : List Value).toArray below meth c H locs 0 0 (MQ below (cQi D r0 A [(a_this, .inr (8, [.int g_length, .ref a_text, .ref a_now, .ref a_before, .int v_undoMany, .ref a_read, .int g_spot, .ref a_first, .ref a_second, .ref a_sums, .ref a_other, .int g_step, .int g_coverMany, .ref a_grid, .ref a_order, .int g_leastSums, .int g_leastPart])), (a_now, .inl (cZ, 164, .inl v_now)), (a_before, .inl (cZ, 984, .inl v_before)), (a_first, .inl (cI, 41, .inl v_first)), (a_sums, .inl (cZ, 241, .inl v_sums))]) ([.ref a_this, .int q1, .int q2, .int q3, .int q4] : List Value).toArray s 0 0 A) (F0 m 0 ls []) by rw [eH, eL] at hG; exact hG
  refine lv_iload_n hx hb dX8_move_0 rfl (lv_at hl 1 rfl) ?_
  obtain ⟨u15, hu15, hf⟩ := bd_some hf
  refine caSI (rest := []) (As := [.int q1]) (wr := [(a_this, .inr (8, [.int g_length, .ref a_text, .ref a_now, .ref a_before, .int g_undoMany, .ref a_read, .int g_spot, .ref a_first, .ref a_second, .ref a_sums, .ref a_other, .int g_step, .int g_coverMany, .ref a_grid, .ref a_order, .int g_leastSums, .int g_leastPart])), (a_now, .inl (cZ, 164, .inl g_now)), (a_before, .inl (cZ, 984, .inl g_before)), (a_first, .inl (cI, 41, .inl g_first)), (a_sums, .inl (cZ, 241, .inl g_sums))]) (wo := [(a_this, .inr (8, [.int g_length, .ref a_text, .ref a_now, .ref a_before, .int g_undoMany, .ref a_read, .int g_spot, .ref a_first, .ref a_second, .ref a_sums, .ref a_other, .int g_step, .int g_coverMany, .ref a_grid, .ref a_order, .int g_leastSums, .int g_leastPart])), (a_now, .inl (cZ, 164, .inl g_now)), (a_before, .inl (cZ, 984, .inl g_before)), (a_first, .inl (cI, 41, .inl g_first)), (a_sums, .inl (cZ, 241, .inl g_sums))]) ⟨hx, hb, hml, hown, hts⟩ hN hP hD hS hA (cX8_isSlot_ct l D cI cL cC cZ q1 u15 hu15) z7 [] [0, 1, 2, 3, 4] [0, 1, 2, 3, 4] rfl (by decide) rfl (by decide) (by decide) rfl (by decide) rfl hl.1 rfl (Nat.le_of_ble_eq_true rfl) dX8_move_1 ⟨Nat.zero_le _, Nat.zero_le _⟩ (fun H locs hP hD hS => ?_)
  refine lv_if_eq (tgt := 41) hx hb dX8_move_4 (by decide) (fun c16 => ?_) (fun c16 => ?_)
  · have hf := br_pos c16 hf
    refine lv_iconst (v := -1) hx hb dX8_move_41 (by decide) ?_
    have hE : ((-1 : Int32), g_undoMany, g_now, g_before, g_first, g_sums) = (r0, v_undoMany, v_now, v_before, v_first, v_sums) := Option.some.inj hf
    simp only [Prod.mk.injEq] at hE
    obtain ⟨rfl, rfl, rfl, rfl, rfl, rfl⟩ := hE
    exact rtI hx hb hr hlk hP hD hS dX8_move_42
  · have hf := br_neg c16 hf
    refine lv_iload_n hx hb dX8_move_7 rfl (lv_at hl 2 rfl) ?_
    obtain ⟨u17, hu17, hf⟩ := bd_some hf
    refine caSI (rest := []) (As := [.int q2]) (wr := [(a_this, .inr (8, [.int g_length, .ref a_text, .ref a_now, .ref a_before, .int g_undoMany, .ref a_read, .int g_spot, .ref a_first, .ref a_second, .ref a_sums, .ref a_other, .int g_step, .int g_coverMany, .ref a_grid, .ref a_order, .int g_leastSums, .int g_leastPart])), (a_now, .inl (cZ, 164, .inl g_now)), (a_before, .inl (cZ, 984, .inl g_before)), (a_first, .inl (cI, 41, .inl g_first)), (a_sums, .inl (cZ, 241, .inl g_sums))]) (wo := [(a_this, .inr (8, [.int g_length, .ref a_text, .ref a_now, .ref a_before, .int g_undoMany, .ref a_read, .int g_spot, .ref a_first, .ref a_second, .ref a_sums, .ref a_other, .int g_step, .int g_coverMany, .ref a_grid, .ref a_order, .int g_leastSums, .int g_leastPart])), (a_now, .inl (cZ, 164, .inl g_now)), (a_before, .inl (cZ, 984, .inl g_before)), (a_first, .inl (cI, 41, .inl g_first)), (a_sums, .inl (cZ, 241, .inl g_sums))]) ⟨hx, hb, hml, hown, hts⟩ hN hP hD hS hA (cX8_isSlot_ct l D cI cL cC cZ q2 u17 hu17) z7 [] [0, 1, 2, 3, 4] [0, 1, 2, 3, 4] rfl (by decide) rfl (by decide) (by decide) rfl (by decide) rfl hl.1 rfl (Nat.le_of_ble_eq_true rfl) dX8_move_8 ⟨Nat.zero_le _, Nat.zero_le _⟩ (fun H locs hP hD hS => ?_)
    refine lv_if_eq (tgt := 41) hx hb dX8_move_11 (by decide) (fun c18 => ?_) (fun c18 => ?_)
    · have hf := br_pos c18 hf
      refine lv_iconst (v := -1) hx hb dX8_move_41 (by decide) ?_
      have hE : ((-1 : Int32), g_undoMany, g_now, g_before, g_first, g_sums) = (r0, v_undoMany, v_now, v_before, v_first, v_sums) := Option.some.inj hf
      simp only [Prod.mk.injEq] at hE
      obtain ⟨rfl, rfl, rfl, rfl, rfl, rfl⟩ := hE
      exact rtI hx hb hr hlk hP hD hS dX8_move_42
    · have hf := br_neg c18 hf
      refine lv_iload_n hx hb dX8_move_14 rfl (lv_at hl 3 rfl) ?_
      refine lv_i2l hx hb dX8_move_15 rfl ?_
      refine lv_lconst (v := 1) hx hb dX8_move_16 (by decide) ?_
      refine lv_ldc2 (v := 9) hx hb hown z8 dX8_move_17 ?_
      obtain ⟨u19, hu19, hf⟩ := bd_some hf
      refine caSI (rest := []) (As := [.long q3.toInt64, .long (1 : Int64), .long (9 : Int64)]) (wr := [(a_this, .inr (8, [.int g_length, .ref a_text, .ref a_now, .ref a_before, .int g_undoMany, .ref a_read, .int g_spot, .ref a_first, .ref a_second, .ref a_sums, .ref a_other, .int g_step, .int g_coverMany, .ref a_grid, .ref a_order, .int g_leastSums, .int g_leastPart])), (a_now, .inl (cZ, 164, .inl g_now)), (a_before, .inl (cZ, 984, .inl g_before)), (a_first, .inl (cI, 41, .inl g_first)), (a_sums, .inl (cZ, 241, .inl g_sums))]) (wo := [(a_this, .inr (8, [.int g_length, .ref a_text, .ref a_now, .ref a_before, .int g_undoMany, .ref a_read, .int g_spot, .ref a_first, .ref a_second, .ref a_sums, .ref a_other, .int g_step, .int g_coverMany, .ref a_grid, .ref a_order, .int g_leastSums, .int g_leastPart])), (a_now, .inl (cZ, 164, .inl g_now)), (a_before, .inl (cZ, 984, .inl g_before)), (a_first, .inl (cI, 41, .inl g_first)), (a_sums, .inl (cZ, 241, .inl g_sums))]) ⟨hx, hb, hml, hown, hts⟩ hN hP hD hS hA (cX8_in_ct l D cI cL cC cZ q3.toInt64 (1 : Int64) (9 : Int64) u19 hu19) z5 [] [0, 1, 2, 3, 4] [0, 1, 2, 3, 4] rfl (by decide) rfl (by decide) (by decide) rfl (by decide) rfl hl.1 rfl (Nat.le_of_ble_eq_true rfl) dX8_move_20 ⟨Nat.zero_le _, Nat.zero_le _⟩ (fun H locs hP hD hS => ?_)
      refine lv_if_eq (tgt := 41) hx hb dX8_move_23 (by decide) (fun c20 => ?_) (fun c20 => ?_)
      · have hf := br_pos c20 hf
        refine lv_iconst (v := -1) hx hb dX8_move_41 (by decide) ?_
        have hE : ((-1 : Int32), g_undoMany, g_now, g_before, g_first, g_sums) = (r0, v_undoMany, v_now, v_before, v_first, v_sums) := Option.some.inj hf
        simp only [Prod.mk.injEq] at hE
        obtain ⟨rfl, rfl, rfl, rfl, rfl, rfl⟩ := hE
        exact rtI hx hb hr hlk hP hD hS dX8_move_42
      · have hf := br_neg c20 hf
        refine lv_iload hx hb dX8_move_26 (lv_at hl 4 rfl) ?_
        refine lv_i2l hx hb dX8_move_28 rfl ?_
        refine lv_ldc2 (v := -40) hx hb hown z9 dX8_move_29 ?_
        refine lv_ldc2 (v := 40) hx hb hown z4 dX8_move_32 ?_
        obtain ⟨u21, hu21, hf⟩ := bd_some hf
        refine caSI (rest := []) (As := [.long q4.toInt64, .long (-40 : Int64), .long (40 : Int64)]) (wr := [(a_this, .inr (8, [.int g_length, .ref a_text, .ref a_now, .ref a_before, .int g_undoMany, .ref a_read, .int g_spot, .ref a_first, .ref a_second, .ref a_sums, .ref a_other, .int g_step, .int g_coverMany, .ref a_grid, .ref a_order, .int g_leastSums, .int g_leastPart])), (a_now, .inl (cZ, 164, .inl g_now)), (a_before, .inl (cZ, 984, .inl g_before)), (a_first, .inl (cI, 41, .inl g_first)), (a_sums, .inl (cZ, 241, .inl g_sums))]) (wo := [(a_this, .inr (8, [.int g_length, .ref a_text, .ref a_now, .ref a_before, .int g_undoMany, .ref a_read, .int g_spot, .ref a_first, .ref a_second, .ref a_sums, .ref a_other, .int g_step, .int g_coverMany, .ref a_grid, .ref a_order, .int g_leastSums, .int g_leastPart])), (a_now, .inl (cZ, 164, .inl g_now)), (a_before, .inl (cZ, 984, .inl g_before)), (a_first, .inl (cI, 41, .inl g_first)), (a_sums, .inl (cZ, 241, .inl g_sums))]) ⟨hx, hb, hml, hown, hts⟩ hN hP hD hS hA (cX8_in_ct l D cI cL cC cZ q4.toInt64 (-40 : Int64) (40 : Int64) u21 hu21) z5 [] [0, 1, 2, 3, 4] [0, 1, 2, 3, 4] rfl (by decide) rfl (by decide) (by decide) rfl (by decide) rfl hl.1 rfl (Nat.le_of_ble_eq_true rfl) dX8_move_35 ⟨Nat.zero_le _, Nat.zero_le _⟩ (fun H locs hP hD hS => ?_)
        refine lv_if_ne (tgt := 43) hx hb dX8_move_38 (by decide) (fun c22 => ?_) (fun c22 => ?_)
        · have hf := br_neg c22 hf
          refine lv_aload_n hx hb dX8_move_43 rfl (lv_at hl 0 rfl) ?_
          refine lv_iload_n hx hb dX8_move_44 rfl (lv_at hl 2 rfl) ?_
          refine lv_aload_n hx hb dX8_move_45 rfl (lv_at hl 0 rfl) ?_
          refine va_get (D := D) (ci := 8) (v := .ref a_first) (C := RX8) (T := TX8) (N := 17) hx hb hts z2 hown hN.1 hP 0 rfl rfl 7 (by decide) z3 (fun _ h9 => h9) rfl dX8_move_46 ?_
          obtain ⟨u23, hu23, hf⟩ := bd_some hf
          refine caVI (rest := []) (As := [.int q2, .ref a_first]) (wr := [(a_before, .inl (cZ, 984, .inl g_before)), (a_sums, .inl (cZ, 241, .inl g_sums))]) (wo := [(a_this, .inr (8, [.int g_length, .ref a_text, .ref a_now, .ref a_before, .int g_undoMany, .ref a_read, .int g_spot, .ref a_first, .ref a_second, .ref a_sums, .ref a_other, .int g_step, .int g_coverMany, .ref a_grid, .ref a_order, .int g_leastSums, .int g_leastPart])), (a_now, .inl (cZ, 164, .inl g_now)), (a_before, .inl (cZ, 984, .inl g_before)), (a_first, .inl (cI, 41, .inl u23.2)), (a_sums, .inl (cZ, 241, .inl g_sums))]) ⟨hx, hb, hml, hown, hts⟩ hN hP hD hS hA (cX8_lists_ct l D cI cL cC cZ a_this a_first a_text a_now a_before a_read a_first a_second a_sums a_other a_grid a_order 41 g_length g_undoMany g_spot g_step g_coverMany g_leastSums g_leastPart g_now g_first q2 u23.1 u23.2 hu23) z10 0 8 rfl rfl [0, 1, 3] [2, 4] [2, 3, 0, 4, 1] rfl (by decide) rfl (by decide) (by decide) rfl (by decide) rfl hl.1 rfl (Nat.le_of_ble_eq_true rfl) dX8_move_49 ⟨Nat.zero_le _, Nat.zero_le _⟩ (fun H locs hP hD hS => ?_)
          refine lv_istore (lv' := [(5, .int u23.1), (0, .ref a_this), (1, .int q1), (2, .int q2), (3, .int q3), (4, .int q4)]) hx hb dX8_move_52 hl (by decide) rfl (fun ls hl => ?_)
          refine lv_iconst (v := 0) hx hb dX8_move_54 (by decide) ?_
          refine lv_istore (lv' := [(6, .int (0 : Int32)), (5, .int u23.1), (0, .ref a_this), (1, .int q1), (2, .int q2), (3, .int q3), (4, .int q4)]) hx hb dX8_move_55 hl (by decide) rfl (fun ls hl => ?_)
          exact w57 q1 q3 q4 u23.1 g_undoMany g_now g_before u23.2 (0 : Int32) g_sums (r0, v_undoMany, v_now, v_before, v_first, v_sums) H locs ls hf rfl hP hD hS (lv_sub hl [2, 3, 5, 6, 1, 0] rfl)
        · have hf := br_pos c22 hf
          refine lv_iconst (v := -1) hx hb dX8_move_41 (by decide) ?_
          have hE : ((-1 : Int32), g_undoMany, g_now, g_before, g_first, g_sums) = (r0, v_undoMany, v_now, v_before, v_first, v_sums) := Option.some.inj hf
          simp only [Prod.mk.injEq] at hE
          obtain ⟨rfl, rfl, rfl, rfl, rfl, rfl⟩ := hE
          exact rtI hx hb hr hlk hP hD hS dX8_move_42
abbrev rmX8_told : Room := { frames := 0, cells := 0, slots := 0, locals := 0 }
noncomputable def bX8_told_9 (x1 : Int32) (x2 : Int32) (g_sums : Nat → Int32) : Option (Int32) := br (0 ≤ x2) (some ((-4 : Int32))) (some (x1))
noncomputable def bX8_told_55 (x4 : Int32) (k0 : Int32) (k1 : Int32) (g_sums : Nat → Int32) : Option ((Int32 × Int32) ⊕ (Int32)) := lt_ (k0 - k1) (fun y2 => lt_ (x4 + (1 : Int32)) (fun y3 => some (Sum.inl ((y2, y3)))))
noncomputable def bX8_told_39 (x3 : Int32) (x4 : Int32) (g_sums : Nat → Int32) : Option ((Int32 × Int32) ⊕ (Int32)) := gd (¬ x4 < 0 ∧ x4.toNatClampNeg < 241) (br ((g_sums x4.toNatClampNeg) = 0) (bX8_told_55 x4 x3 (0 : Int32) g_sums) (bX8_told_55 x4 x3 (1 : Int32) g_sums))
noncomputable def bX8_told_25 (g_sums : Nat → Int32) (x3 : Int32) (x4 : Int32) : Option ((Int32 × Int32) ⊕ (Int32)) := br (0 < x3) (bX8_told_39 x3 x4 g_sums) (gd (¬ x4 < 0 ∧ x4.toNatClampNeg < 241) (br ((g_sums x4.toNatClampNeg) = 0) (bX8_told_39 x3 x4 g_sums) (some (Sum.inr (x4)))))
noncomputable def sX8_told_25 (g_sums : Nat → Int32) : (Int32 × Int32) → Option ((Int32 × Int32) ⊕ (Int32)) := fun q => bX8_told_25 g_sums q.1 q.2
noncomputable def fX8_told (q1 : Int32) (q2 : Int32) (g_sums : Nat → Int32) : Option (Int32) := br (q2 < 0) (bX8_told_9 q1 q2 g_sums) (br (q2 < q1) (run (sX8_told_25 g_sums) ((q2, (0 : Int32)))) (bX8_told_9 q1 q2 g_sums))
set_option maxHeartbeats 4000000 in
set_option maxRecDepth 100000 in
theorem cX8_told_ct (l : Launch) (D : va_G) (cI cL cC cZ : ClassId) (a_this a_text a_now a_before a_read a_first a_second a_sums a_other a_grid a_order : Nat) (g_length : Int32) (g_undoMany : Int32) (g_spot : Int32) (g_step : Int32) (g_coverMany : Int32) (g_leastSums : Int32) (g_leastPart : Int32) (g_sums : Nat → Int32) (q1 : Int32) (q2 : Int32) (r0 : Int32) (hf : fX8_told q1 q2 g_sums = some r0) : CtI l yX8_told wsX8_told rmX8_told D (tyz cI cL cC cZ) [.ref a_this, .int q1, .int q2] [(a_this, .inr (8, [.int g_length, .ref a_text, .ref a_now, .ref a_before, .int g_undoMany, .ref a_read, .int g_spot, .ref a_first, .ref a_second, .ref a_sums, .ref a_other, .int g_step, .int g_coverMany, .ref a_grid, .ref a_order, .int g_leastSums, .int g_leastPart])), (a_sums, .inl (cZ, 241, .inl g_sums))] [(a_this, .inr (8, [.int g_length, .ref a_text, .ref a_now, .ref a_before, .int g_undoMany, .ref a_read, .int g_spot, .ref a_first, .ref a_second, .ref a_sums, .ref a_other, .int g_step, .int g_coverMany, .ref a_grid, .ref a_order, .int g_leastSums, .int g_leastPart])), (a_sums, .inl (cZ, 241, .inl g_sums))] r0 := by
  refine CtI.make (cc := cX8_told) (maxL := 5) (ty := .int) (by decide) rfl (Nat.le_of_ble_eq_true rfl) ?_
  intro p e s m below meth c A ls C0 hN hA hP hD hl
  obtain ⟨hx, hb, hr, hml, hown, hts, hlk⟩ := id C0
  have hown : s.vm.findClass RX8 = some m.cls := hown
  have hS : va_S A s.heap s.heap [] := va_S.rf
  have hP : va_P D vwCl [(a_this, .inr (8, [.int g_length, .ref a_text, .ref a_now, .ref a_before, .int g_undoMany, .ref a_read, .int g_spot, .ref a_first, .ref a_second, .ref a_sums, .ref a_other, .int g_step, .int g_coverMany, .ref a_grid, .ref a_order, .int g_leastSums, .int g_leastPart])), (a_sums, .inl (cZ, 241, .inl g_sums))] s.heap := hP
  have hD : va_D A [(a_this, .inr (8, [.int g_length, .ref a_text, .ref a_now, .ref a_before, .int g_undoMany, .ref a_read, .int g_spot, .ref a_first, .ref a_second, .ref a_sums, .ref a_other, .int g_step, .int g_coverMany, .ref a_grid, .ref a_order, .int g_leastSums, .int g_leastPart])), (a_sums, .inl (cZ, 241, .inl g_sums))] := hD
  have hl : lv_has ls 5 [(0, .ref a_this), (1, .int q1), (2, .int q2)] := hl
  have z1 : ∀ w ∈ u_ws RX8 TX8 17, w ∈ wsX8_told := by decide +kernel
  have z2 := hts (.fieldLink RX8 29 "LittleSumsModel" "sums" "[Z") (by decide +kernel)
  have w9 : ∀ (x1 : Int32) (x2 : Int32) (g_sums : Nat → Int32) (H : Heap) (locs : List Loc) (ls : Array Slot), bX8_told_9 x1 x2 g_sums = some r0 → va_P D vwCl [(a_this, .inr (8, [.int g_length, .ref a_text, .ref a_now, .ref a_before, .int g_undoMany, .ref a_read, .int g_spot, .ref a_first, .ref a_second, .ref a_sums, .ref a_other, .int g_step, .int g_coverMany, .ref a_grid, .ref a_order, .int g_leastSums, .int g_leastPart])), (a_sums, .inl (cZ, 241, .inl g_sums))] H → va_D A [(a_this, .inr (8, [.int g_length, .ref a_text, .ref a_now, .ref a_before, .int g_undoMany, .ref a_read, .int g_spot, .ref a_first, .ref a_second, .ref a_sums, .ref a_other, .int g_step, .int g_coverMany, .ref a_grid, .ref a_order, .int g_leastSums, .int g_leastPart])), (a_sums, .inl (cZ, 241, .inl g_sums))] → va_S A s.heap H locs → lv_has ls 5 [(1, .int x1), (2, .int x2)] → W p l e rmX8_told s m ([.ref a_this, .int q1, .int q2] : List Value).toArray below meth c H locs 0 0 (MQ below (cQi D r0 A [(a_this, .inr (8, [.int g_length, .ref a_text, .ref a_now, .ref a_before, .int g_undoMany, .ref a_read, .int g_spot, .ref a_first, .ref a_second, .ref a_sums, .ref a_other, .int g_step, .int g_coverMany, .ref a_grid, .ref a_order, .int g_leastSums, .int g_leastPart])), (a_sums, .inl (cZ, 241, .inl g_sums))]) ([.ref a_this, .int q1, .int q2] : List Value).toArray s 0 0 A) (F0 m 9 ls []) := by
    intro x1 x2 g_sums H locs ls hf hP hD hS hl
    unfold bX8_told_9 at hf
    refine lv_iload_n hx hb dX8_told_9 rfl (lv_at hl 1 rfl) ?_
    refine lv_if_ge (tgt := 17) hx hb dX8_told_10 (by decide) (fun c1 => ?_) (fun c1 => ?_)
    · have hf := br_pos c1 hf
      refine lv_bipush (v := -4) hx hb dX8_told_17 (by decide) ?_
      have hE : (-4 : Int32) = r0 := Option.some.inj hf
      subst hE
      exact rtI hx hb hr hlk hP hD hS dX8_told_19
    · have hf := br_neg c1 hf
      refine lv_iload_n hx hb dX8_told_13 rfl (lv_at hl 0 rfl) ?_
      refine lv_goto (tgt := 19) hx hb dX8_told_14 (by decide) ?_
      have hE : x1 = r0 := Option.some.inj hf
      subst hE
      exact rtI hx hb hr hlk hP hD hS dX8_told_19
  have w25 : ∀ (g_sums : Nat → Int32) (x3 : Int32) (x4 : Int32) (t : Int32) (H : Heap) (locs : List Loc) (ls : Array Slot), run (sX8_told_25 g_sums) ((x3, x4)) = some t → (fun z => z = r0) t → va_P D vwCl [(a_this, .inr (8, [.int g_length, .ref a_text, .ref a_now, .ref a_before, .int g_undoMany, .ref a_read, .int g_spot, .ref a_first, .ref a_second, .ref a_sums, .ref a_other, .int g_step, .int g_coverMany, .ref a_grid, .ref a_order, .int g_leastSums, .int g_leastPart])), (a_sums, .inl (cZ, 241, .inl g_sums))] H → va_D A [(a_this, .inr (8, [.int g_length, .ref a_text, .ref a_now, .ref a_before, .int g_undoMany, .ref a_read, .int g_spot, .ref a_first, .ref a_second, .ref a_sums, .ref a_other, .int g_step, .int g_coverMany, .ref a_grid, .ref a_order, .int g_leastSums, .int g_leastPart])), (a_sums, .inl (cZ, 241, .inl g_sums))] → va_S A s.heap H locs → lv_has ls 5 [(0, .ref a_this), (3, .int x3), (4, .int x4)] → W p l e rmX8_told s m ([.ref a_this, .int q1, .int q2] : List Value).toArray below meth c H locs 0 0 (MQ below (cQi D r0 A [(a_this, .inr (8, [.int g_length, .ref a_text, .ref a_now, .ref a_before, .int g_undoMany, .ref a_read, .int g_spot, .ref a_first, .ref a_second, .ref a_sums, .ref a_other, .int g_step, .int g_coverMany, .ref a_grid, .ref a_order, .int g_leastSums, .int g_leastPart])), (a_sums, .inl (cZ, 241, .inl g_sums))]) ([.ref a_this, .int q1, .int q2] : List Value).toArray s 0 0 A) (F0 m 25 ls []) := by
    intro g_sums
    obtain ⟨F25, eF25⟩ : ∃ F : (Int32 × Int32) → Prop, F = fun q => ∀ (H : Heap) (locs : List Loc) (ls : Array Slot), va_P D vwCl [(a_this, .inr (8, [.int g_length, .ref a_text, .ref a_now, .ref a_before, .int g_undoMany, .ref a_read, .int g_spot, .ref a_first, .ref a_second, .ref a_sums, .ref a_other, .int g_step, .int g_coverMany, .ref a_grid, .ref a_order, .int g_leastSums, .int g_leastPart])), (a_sums, .inl (cZ, 241, .inl g_sums))] H → va_D A [(a_this, .inr (8, [.int g_length, .ref a_text, .ref a_now, .ref a_before, .int g_undoMany, .ref a_read, .int g_spot, .ref a_first, .ref a_second, .ref a_sums, .ref a_other, .int g_step, .int g_coverMany, .ref a_grid, .ref a_order, .int g_leastSums, .int g_leastPart])), (a_sums, .inl (cZ, 241, .inl g_sums))] → va_S A s.heap H locs → lv_has ls 5 [(0, .ref a_this), (3, .int q.1), (4, .int q.2)] → W p l e rmX8_told s m ([.ref a_this, .int q1, .int q2] : List Value).toArray below meth c H locs 0 0 (MQ below (cQi D r0 A [(a_this, .inr (8, [.int g_length, .ref a_text, .ref a_now, .ref a_before, .int g_undoMany, .ref a_read, .int g_spot, .ref a_first, .ref a_second, .ref a_sums, .ref a_other, .int g_step, .int g_coverMany, .ref a_grid, .ref a_order, .int g_leastSums, .int g_leastPart])), (a_sums, .inl (cZ, 241, .inl g_sums))]) ([.ref a_this, .int q1, .int q2] : List Value).toArray s 0 0 A) (F0 m 25 ls []) := ⟨_, rfl⟩
    have key : ∀ (q : Int32 × Int32) (t : Int32), run (sX8_told_25 g_sums) q = some t → (fun z => z = r0) t → F25 q := by
      refine loop_rule (sX8_told_25 g_sums) F25 (fun z => z = r0) ?_
      intro q t hf hF
      have hF : (Sum.elim F25 (fun z => z = r0)) t := hF
      have w55 : ∀ (x4 : Int32) (k0 : Int32) (k1 : Int32) (t : (Int32 × Int32) ⊕ (Int32)) (H : Heap) (locs : List Loc) (ls : Array Slot), bX8_told_55 x4 k0 k1 g_sums = some t → (Sum.elim F25 (fun z => z = r0)) t → va_P D vwCl [(a_this, .inr (8, [.int g_length, .ref a_text, .ref a_now, .ref a_before, .int g_undoMany, .ref a_read, .int g_spot, .ref a_first, .ref a_second, .ref a_sums, .ref a_other, .int g_step, .int g_coverMany, .ref a_grid, .ref a_order, .int g_leastSums, .int g_leastPart])), (a_sums, .inl (cZ, 241, .inl g_sums))] H → va_D A [(a_this, .inr (8, [.int g_length, .ref a_text, .ref a_now, .ref a_before, .int g_undoMany, .ref a_read, .int g_spot, .ref a_first, .ref a_second, .ref a_sums, .ref a_other, .int g_step, .int g_coverMany, .ref a_grid, .ref a_order, .int g_leastSums, .int g_leastPart])), (a_sums, .inl (cZ, 241, .inl g_sums))] → va_S A s.heap H locs → lv_has ls 5 [(0, .ref a_this), (4, .int x4)] → W p l e rmX8_told s m ([.ref a_this, .int q1, .int q2] : List Value).toArray below meth c H locs 0 0 (MQ below (cQi D r0 A [(a_this, .inr (8, [.int g_length, .ref a_text, .ref a_now, .ref a_before, .int g_undoMany, .ref a_read, .int g_spot, .ref a_first, .ref a_second, .ref a_sums, .ref a_other, .int g_step, .int g_coverMany, .ref a_grid, .ref a_order, .int g_leastSums, .int g_leastPart])), (a_sums, .inl (cZ, 241, .inl g_sums))]) ([.ref a_this, .int q1, .int q2] : List Value).toArray s 0 0 A) (F0 m 55 ls [.int k1, .int k0]) := by
        intro x4 k0 k1 t H locs ls hf hF hP hD hS hl
        unfold bX8_told_55 at hf
        refine lv_isub hx hb dX8_told_55 ?_
        refine lv_topi (fun y2 ey2 => ?_)
        have hf := lt_some hf y2 ey2
        refine lv_istore_n (lv' := [(3, .int y2), (0, .ref a_this), (4, .int x4)]) hx hb dX8_told_56 rfl hl (by decide) rfl (fun ls hl => ?_)
        obtain ⟨y3, ey3⟩ : ∃ z : Int32, z = x4 + (1 : Int32) := ⟨_, rfl⟩
        have hf := lt_some hf y3 ey3
        refine lv_iinc (v := y3) (lv' := [(4, .int y3), (3, .int y2), (0, .ref a_this)]) hx hb dX8_told_57 hl (k := 2) rfl (by rw [ey3]; rfl) (by decide) rfl (fun ls hl => ?_)
        refine lv_goto (tgt := 25) hx hb dX8_told_60 (by decide) ?_
        cases hf
        exact ((congrFun eF25 _).mp hF) H locs ls hP hD hS (lv_sub hl [2, 1, 0] rfl)
      have w39 : ∀ (x3 : Int32) (x4 : Int32) (t : (Int32 × Int32) ⊕ (Int32)) (H : Heap) (locs : List Loc) (ls : Array Slot), bX8_told_39 x3 x4 g_sums = some t → (Sum.elim F25 (fun z => z = r0)) t → va_P D vwCl [(a_this, .inr (8, [.int g_length, .ref a_text, .ref a_now, .ref a_before, .int g_undoMany, .ref a_read, .int g_spot, .ref a_first, .ref a_second, .ref a_sums, .ref a_other, .int g_step, .int g_coverMany, .ref a_grid, .ref a_order, .int g_leastSums, .int g_leastPart])), (a_sums, .inl (cZ, 241, .inl g_sums))] H → va_D A [(a_this, .inr (8, [.int g_length, .ref a_text, .ref a_now, .ref a_before, .int g_undoMany, .ref a_read, .int g_spot, .ref a_first, .ref a_second, .ref a_sums, .ref a_other, .int g_step, .int g_coverMany, .ref a_grid, .ref a_order, .int g_leastSums, .int g_leastPart])), (a_sums, .inl (cZ, 241, .inl g_sums))] → va_S A s.heap H locs → lv_has ls 5 [(0, .ref a_this), (3, .int x3), (4, .int x4)] → W p l e rmX8_told s m ([.ref a_this, .int q1, .int q2] : List Value).toArray below meth c H locs 0 0 (MQ below (cQi D r0 A [(a_this, .inr (8, [.int g_length, .ref a_text, .ref a_now, .ref a_before, .int g_undoMany, .ref a_read, .int g_spot, .ref a_first, .ref a_second, .ref a_sums, .ref a_other, .int g_step, .int g_coverMany, .ref a_grid, .ref a_order, .int g_leastSums, .int g_leastPart])), (a_sums, .inl (cZ, 241, .inl g_sums))]) ([.ref a_this, .int q1, .int q2] : List Value).toArray s 0 0 A) (F0 m 39 ls []) := by
        intro x3 x4 t H locs ls hf hF hP hD hS hl
        unfold bX8_told_39 at hf
        refine lv_iload_n hx hb dX8_told_39 rfl (lv_at hl 1 rfl) ?_
        refine lv_aload_n hx hb dX8_told_40 rfl (lv_at hl 0 rfl) ?_
        refine va_get (D := D) (ci := 8) (v := .ref a_sums) (C := RX8) (T := TX8) (N := 17) hx hb hts z1 hown hN.1 hP 0 rfl rfl 9 (by decide) z2 (fun _ h9 => h9) rfl dX8_told_41 ?_
        refine lv_iload hx hb dX8_told_44 (lv_at hl 2 rfl) ?_
        obtain ⟨c4, hf⟩ := gd_some hf
        refine va_zald hx hb hN.1 hP 1 3 rfl rfl (ix_in c4) dX8_told_46 ?_
        refine lv_if_eq (tgt := 54) hx hb dX8_told_47 (by decide) (fun c5 => ?_) (fun c5 => ?_)
        · have hf := br_pos c5 hf
          refine lv_iconst (v := 0) hx hb dX8_told_54 (by decide) ?_
          exact w55 x4 x3 (0 : Int32) _ H locs ls hf hF hP hD hS (lv_sub hl [0, 2] rfl)
        · have hf := br_neg c5 hf
          refine lv_iconst (v := 1) hx hb dX8_told_50 (by decide) ?_
          refine lv_goto (tgt := 55) hx hb dX8_told_51 (by decide) ?_
          exact w55 x4 x3 (1 : Int32) _ H locs ls hf hF hP hD hS (lv_sub hl [0, 2] rfl)
      rw [eF25]
      obtain ⟨x3, x4⟩ := q
      intro H locs ls hP hD hS hl
      have hP : va_P D vwCl [(a_this, .inr (8, [.int g_length, .ref a_text, .ref a_now, .ref a_before, .int g_undoMany, .ref a_read, .int g_spot, .ref a_first, .ref a_second, .ref a_sums, .ref a_other, .int g_step, .int g_coverMany, .ref a_grid, .ref a_order, .int g_leastSums, .int g_leastPart])), (a_sums, .inl (cZ, 241, .inl g_sums))] H := hP
      have hD : va_D A [(a_this, .inr (8, [.int g_length, .ref a_text, .ref a_now, .ref a_before, .int g_undoMany, .ref a_read, .int g_spot, .ref a_first, .ref a_second, .ref a_sums, .ref a_other, .int g_step, .int g_coverMany, .ref a_grid, .ref a_order, .int g_leastSums, .int g_leastPart])), (a_sums, .inl (cZ, 241, .inl g_sums))] := hD
      have hl : lv_has ls 5 [(0, .ref a_this), (3, .int x3), (4, .int x4)] := hl
      have hf : bX8_told_25 g_sums x3 x4 = some t := hf
      unfold bX8_told_25 at hf
      refine lv_iload_n hx hb dX8_told_25 rfl (lv_at hl 1 rfl) ?_
      refine lv_if_gt (tgt := 39) hx hb dX8_told_26 (by decide) (fun c6 => ?_) (fun c6 => ?_)
      · have hf := br_pos c6 hf
        exact w39 x3 x4 _ H locs ls hf hF hP hD hS (lv_sub hl [0, 1, 2] rfl)
      · have hf := br_neg c6 hf
        refine lv_aload_n hx hb dX8_told_29 rfl (lv_at hl 0 rfl) ?_
        refine va_get (D := D) (ci := 8) (v := .ref a_sums) (C := RX8) (T := TX8) (N := 17) hx hb hts z1 hown hN.1 hP 0 rfl rfl 9 (by decide) z2 (fun _ h9 => h9) rfl dX8_told_30 ?_
        refine lv_iload hx hb dX8_told_33 (lv_at hl 2 rfl) ?_
        obtain ⟨c7, hf⟩ := gd_some hf
        refine va_zald hx hb hN.1 hP 1 3 rfl rfl (ix_in c7) dX8_told_35 ?_
        refine lv_if_ne (tgt := 63) hx hb dX8_told_36 (by decide) (fun c8 => ?_) (fun c8 => ?_)
        · have hf := br_neg c8 hf
          refine lv_iload hx hb dX8_told_63 (lv_at hl 2 rfl) ?_
          cases hf
          have hE : x4 = r0 := hF
          subst hE
          exact rtI hx hb hr hlk hP hD hS dX8_told_65
        · have hf := br_pos c8 hf
          exact w39 x3 x4 _ H locs ls hf hF hP hD hS (lv_sub hl [0, 1, 2] rfl)
    intro x3 x4 t H locs ls hf hF hP hD hS hl
    exact ((congrFun eF25 _).mp (key ((x3, x4)) t hf hF)) H locs ls hP hD hS hl
  unfold fX8_told at hf
  obtain ⟨H, eH⟩ : ∃ z, z = s.heap := ⟨_, rfl⟩
  obtain ⟨locs, eL⟩ : ∃ z : List Loc, z = [] := ⟨_, rfl⟩
  have hP : va_P D vwCl [(a_this, .inr (8, [.int g_length, .ref a_text, .ref a_now, .ref a_before, .int g_undoMany, .ref a_read, .int g_spot, .ref a_first, .ref a_second, .ref a_sums, .ref a_other, .int g_step, .int g_coverMany, .ref a_grid, .ref a_order, .int g_leastSums, .int g_leastPart])), (a_sums, .inl (cZ, 241, .inl g_sums))] H := by rw [eH]; exact hP
  have hS : va_S A s.heap H locs := by rw [eH, eL]; exact hS
  suffices hG : W p l e rmX8_told s m ([.ref a_this, .int q1, .int q2] : List Value).toArray below meth c H locs 0 0 (MQ below (cQi D r0 A [(a_this, .inr (8, [.int g_length, .ref a_text, .ref a_now, .ref a_before, .int g_undoMany, .ref a_read, .int g_spot, .ref a_first, .ref a_second, .ref a_sums, .ref a_other, .int g_step, .int g_coverMany, .ref a_grid, .ref a_order, .int g_leastSums, .int g_leastPart])), (a_sums, .inl (cZ, 241, .inl g_sums))]) ([.ref a_this, .int q1, .int q2] : List Value).toArray s 0 0 A) (F0 m 0 ls []) by rw [eH, eL] at hG; exact hG
  refine lv_iload_n hx hb dX8_told_0 rfl (lv_at hl 2 rfl) ?_
  refine lv_if_lt (tgt := 9) hx hb dX8_told_1 (by decide) (fun c9 => ?_) (fun c9 => ?_)
  · have hf := br_pos c9 hf
    exact w9 q1 q2 g_sums H locs ls hf hP hD hS (lv_sub hl [1, 2] rfl)
  · have hf := br_neg c9 hf
    refine lv_iload_n hx hb dX8_told_4 rfl (lv_at hl 2 rfl) ?_
    refine lv_iload_n hx hb dX8_told_5 rfl (lv_at hl 1 rfl) ?_
    refine lv_icmp_lt (tgt := 20) hx hb dX8_told_6 (by decide) (fun c10 => ?_) (fun c10 => ?_)
    · have hf := br_pos c10 hf
      refine lv_iload_n hx hb dX8_told_20 rfl (lv_at hl 2 rfl) ?_
      refine lv_istore_n (lv' := [(3, .int q2), (0, .ref a_this), (1, .int q1), (2, .int q2)]) hx hb dX8_told_21 rfl hl (by decide) rfl (fun ls hl => ?_)
      refine lv_iconst (v := 0) hx hb dX8_told_22 (by decide) ?_
      refine lv_istore (lv' := [(4, .int (0 : Int32)), (3, .int q2), (0, .ref a_this), (1, .int q1), (2, .int q2)]) hx hb dX8_told_23 hl (by decide) rfl (fun ls hl => ?_)
      exact w25 g_sums q2 (0 : Int32) r0 H locs ls hf rfl hP hD hS (lv_sub hl [2, 1, 0] rfl)
    · have hf := br_neg c10 hf
      exact w9 q1 q2 g_sums H locs ls hf hP hD hS (lv_sub hl [1, 2] rfl)
abbrev rmX8_member : Room := { frames := 2, cells := 0, slots := 0, locals := 45 }
noncomputable def fX8_member (q1 : Int32) (q2 : Int32) (g_now : Nat → Int32) (g_first : Nat → Int32) : Option (Int32 × (Nat → Int32)) := bd (fX8_isSlot q1) (fun u1 => br (u1 = 0) (some (((-1 : Int32), g_first))) (br ((-1 : Int32) ≤ q2) (bd (fX8_lists q1 41 g_now g_first) (fun u4 => br (0 ≤ q2) (br (u4.1 ≤ q2) (some (((-4 : Int32), u4.2))) (gd (¬ q2 < 0 ∧ q2.toNatClampNeg < 41) (some ((u4.2 q2.toNatClampNeg, u4.2))))) (some ((u4.1, u4.2))))) (some (((-1 : Int32), g_first)))))
set_option maxHeartbeats 4000000 in
set_option maxRecDepth 100000 in
theorem cX8_member_ct (l : Launch) (D : va_G) (cI cL cC cZ : ClassId) (a_this a_text a_now a_before a_read a_first a_second a_sums a_other a_grid a_order : Nat) (g_length : Int32) (g_undoMany : Int32) (g_spot : Int32) (g_step : Int32) (g_coverMany : Int32) (g_leastSums : Int32) (g_leastPart : Int32) (g_now : Nat → Int32) (g_first : Nat → Int32) (q1 : Int32) (q2 : Int32) (r0 : Int32) (v_first : Nat → Int32) (hf : fX8_member q1 q2 g_now g_first = some ((r0, v_first))) : CtI l yX8_member wsX8_member rmX8_member D (tyz cI cL cC cZ) [.ref a_this, .int q1, .int q2] [(a_this, .inr (8, [.int g_length, .ref a_text, .ref a_now, .ref a_before, .int g_undoMany, .ref a_read, .int g_spot, .ref a_first, .ref a_second, .ref a_sums, .ref a_other, .int g_step, .int g_coverMany, .ref a_grid, .ref a_order, .int g_leastSums, .int g_leastPart])), (a_now, .inl (cZ, 164, .inl g_now)), (a_first, .inl (cI, 41, .inl g_first))] [(a_this, .inr (8, [.int g_length, .ref a_text, .ref a_now, .ref a_before, .int g_undoMany, .ref a_read, .int g_spot, .ref a_first, .ref a_second, .ref a_sums, .ref a_other, .int g_step, .int g_coverMany, .ref a_grid, .ref a_order, .int g_leastSums, .int g_leastPart])), (a_now, .inl (cZ, 164, .inl g_now)), (a_first, .inl (cI, 41, .inl v_first))] r0 := by
  refine CtI.make (cc := cX8_member) (maxL := 4) (ty := .int) (by decide) rfl (Nat.le_of_ble_eq_true rfl) ?_
  intro p e s m below meth c A ls C0 hN hA hP hD hl
  obtain ⟨hx, hb, hr, hml, hown, hts, hlk⟩ := id C0
  have hown : s.vm.findClass RX8 = some m.cls := hown
  have hS : va_S A s.heap s.heap [] := va_S.rf
  have hP : va_P D vwCl [(a_this, .inr (8, [.int g_length, .ref a_text, .ref a_now, .ref a_before, .int g_undoMany, .ref a_read, .int g_spot, .ref a_first, .ref a_second, .ref a_sums, .ref a_other, .int g_step, .int g_coverMany, .ref a_grid, .ref a_order, .int g_leastSums, .int g_leastPart])), (a_now, .inl (cZ, 164, .inl g_now)), (a_first, .inl (cI, 41, .inl g_first))] s.heap := hP
  have hD : va_D A [(a_this, .inr (8, [.int g_length, .ref a_text, .ref a_now, .ref a_before, .int g_undoMany, .ref a_read, .int g_spot, .ref a_first, .ref a_second, .ref a_sums, .ref a_other, .int g_step, .int g_coverMany, .ref a_grid, .ref a_order, .int g_leastSums, .int g_leastPart])), (a_now, .inl (cZ, 164, .inl g_now)), (a_first, .inl (cI, 41, .inl g_first))] := hD
  have hl : lv_has ls 4 [(0, .ref a_this), (1, .int q1), (2, .int q2)] := hl
  have z1 := va_cwS (R := rmX8_member) (rm := rmX8_isSlot) (mc := 0) (ms := 0) 1 hts gX8_member_X8_isSlot rfl rfl rfl (by decide +kernel) ⟨Nat.le_of_ble_eq_true rfl, Nat.le_of_ble_eq_true rfl⟩
  have z2 : ∀ w ∈ u_ws RX8 TX8 17, w ∈ wsX8_member := by decide +kernel
  have z3 := hts (.fieldLink RX8 23 "LittleSumsModel" "first" "[I") (by decide +kernel)
  have z4 := cwV (R := rmX8_member) (rm := rmX8_lists) (mc := 0) (ms := 0) 2 hts gX8_member_X8_lists rfl rfl rfl (by decide +kernel) ⟨Nat.le_of_ble_eq_true rfl, Nat.le_of_ble_eq_true rfl⟩
  unfold fX8_member at hf
  obtain ⟨H, eH⟩ : ∃ z, z = s.heap := ⟨_, rfl⟩
  obtain ⟨locs, eL⟩ : ∃ z : List Loc, z = [] := ⟨_, rfl⟩
  have hP : va_P D vwCl [(a_this, .inr (8, [.int g_length, .ref a_text, .ref a_now, .ref a_before, .int g_undoMany, .ref a_read, .int g_spot, .ref a_first, .ref a_second, .ref a_sums, .ref a_other, .int g_step, .int g_coverMany, .ref a_grid, .ref a_order, .int g_leastSums, .int g_leastPart])), (a_now, .inl (cZ, 164, .inl g_now)), (a_first, .inl (cI, 41, .inl g_first))] H := by rw [eH]; exact hP
  have hS : va_S A s.heap H locs := by rw [eH, eL]; exact hS
  suffices hG : W p l e rmX8_member s m ([.ref a_this, .int q1, .int q2] : List Value).toArray below meth c H locs 0 0 (MQ below (cQi D r0 A [(a_this, .inr (8, [.int g_length, .ref a_text, .ref a_now, .ref a_before, .int g_undoMany, .ref a_read, .int g_spot, .ref a_first, .ref a_second, .ref a_sums, .ref a_other, .int g_step, .int g_coverMany, .ref a_grid, .ref a_order, .int g_leastSums, .int g_leastPart])), (a_now, .inl (cZ, 164, .inl g_now)), (a_first, .inl (cI, 41, .inl v_first))]) ([.ref a_this, .int q1, .int q2] : List Value).toArray s 0 0 A) (F0 m 0 ls []) by rw [eH, eL] at hG; exact hG
  refine lv_iload_n hx hb dX8_member_0 rfl (lv_at hl 1 rfl) ?_
  obtain ⟨u1, hu1, hf⟩ := bd_some hf
  refine caSI (rest := []) (As := [.int q1]) (wr := [(a_this, .inr (8, [.int g_length, .ref a_text, .ref a_now, .ref a_before, .int g_undoMany, .ref a_read, .int g_spot, .ref a_first, .ref a_second, .ref a_sums, .ref a_other, .int g_step, .int g_coverMany, .ref a_grid, .ref a_order, .int g_leastSums, .int g_leastPart])), (a_now, .inl (cZ, 164, .inl g_now)), (a_first, .inl (cI, 41, .inl g_first))]) (wo := [(a_this, .inr (8, [.int g_length, .ref a_text, .ref a_now, .ref a_before, .int g_undoMany, .ref a_read, .int g_spot, .ref a_first, .ref a_second, .ref a_sums, .ref a_other, .int g_step, .int g_coverMany, .ref a_grid, .ref a_order, .int g_leastSums, .int g_leastPart])), (a_now, .inl (cZ, 164, .inl g_now)), (a_first, .inl (cI, 41, .inl g_first))]) ⟨hx, hb, hml, hown, hts⟩ hN hP hD hS hA (cX8_isSlot_ct l D cI cL cC cZ q1 u1 hu1) z1 [] [0, 1, 2] [0, 1, 2] rfl (by decide) rfl (by decide) (by decide) rfl (by decide) rfl hl.1 rfl (Nat.le_of_ble_eq_true rfl) dX8_member_1 ⟨Nat.zero_le _, Nat.zero_le _⟩ (fun H locs hP hD hS => ?_)
  refine lv_if_eq (tgt := 12) hx hb dX8_member_4 (by decide) (fun c2 => ?_) (fun c2 => ?_)
  · have hf := br_pos c2 hf
    refine lv_iconst (v := -1) hx hb dX8_member_12 (by decide) ?_
    have hE : ((-1 : Int32), g_first) = (r0, v_first) := Option.some.inj hf
    simp only [Prod.mk.injEq] at hE
    obtain ⟨rfl, rfl⟩ := hE
    exact rtI hx hb hr hlk hP hD hS dX8_member_13
  · have hf := br_neg c2 hf
    refine lv_iload_n hx hb dX8_member_7 rfl (lv_at hl 2 rfl) ?_
    refine lv_iconst (v := -1) hx hb dX8_member_8 (by decide) ?_
    refine lv_icmp_ge (tgt := 14) hx hb dX8_member_9 (by decide) (fun c3 => ?_) (fun c3 => ?_)
    · have hf := br_pos c3 hf
      refine lv_aload_n hx hb dX8_member_14 rfl (lv_at hl 0 rfl) ?_
      refine lv_iload_n hx hb dX8_member_15 rfl (lv_at hl 1 rfl) ?_
      refine lv_aload_n hx hb dX8_member_16 rfl (lv_at hl 0 rfl) ?_
      refine va_get (D := D) (ci := 8) (v := .ref a_first) (C := RX8) (T := TX8) (N := 17) hx hb hts z2 hown hN.1 hP 0 rfl rfl 7 (by decide) z3 (fun _ h9 => h9) rfl dX8_member_17 ?_
      obtain ⟨u4, hu4, hf⟩ := bd_some hf
      refine caVI (rest := []) (As := [.int q1, .ref a_first]) (wr := []) (wo := [(a_this, .inr (8, [.int g_length, .ref a_text, .ref a_now, .ref a_before, .int g_undoMany, .ref a_read, .int g_spot, .ref a_first, .ref a_second, .ref a_sums, .ref a_other, .int g_step, .int g_coverMany, .ref a_grid, .ref a_order, .int g_leastSums, .int g_leastPart])), (a_now, .inl (cZ, 164, .inl g_now)), (a_first, .inl (cI, 41, .inl u4.2))]) ⟨hx, hb, hml, hown, hts⟩ hN hP hD hS hA (cX8_lists_ct l D cI cL cC cZ a_this a_first a_text a_now a_before a_read a_first a_second a_sums a_other a_grid a_order 41 g_length g_undoMany g_spot g_step g_coverMany g_leastSums g_leastPart g_now g_first q1 u4.1 u4.2 hu4) z4 0 8 rfl rfl [0, 1, 2] [] [0, 1, 2] rfl (by decide) rfl (by decide) (by decide) rfl (by decide) rfl hl.1 rfl (Nat.le_of_ble_eq_true rfl) dX8_member_20 ⟨Nat.zero_le _, Nat.zero_le _⟩ (fun H locs hP hD hS => ?_)
      refine lv_istore_n (lv' := [(3, .int u4.1), (0, .ref a_this), (1, .int q1), (2, .int q2)]) hx hb dX8_member_23 rfl hl (by decide) rfl (fun ls hl => ?_)
      refine lv_iload_n hx hb dX8_member_24 rfl (lv_at hl 3 rfl) ?_
      refine lv_if_ge (tgt := 32) hx hb dX8_member_25 (by decide) (fun c5 => ?_) (fun c5 => ?_)
      · have hf := br_pos c5 hf
        refine lv_iload_n hx hb dX8_member_32 rfl (lv_at hl 3 rfl) ?_
        refine lv_iload_n hx hb dX8_member_33 rfl (lv_at hl 0 rfl) ?_
        refine lv_icmp_ge (tgt := 46) hx hb dX8_member_34 (by decide) (fun c6 => ?_) (fun c6 => ?_)
        · have hf := br_pos c6 hf
          refine lv_bipush (v := -4) hx hb dX8_member_46 (by decide) ?_
          have hE : ((-4 : Int32), u4.2) = (r0, v_first) := Option.some.inj hf
          simp only [Prod.mk.injEq] at hE
          obtain ⟨rfl, rfl⟩ := hE
          exact rtI hx hb hr hlk hP hD hS dX8_member_48
        · have hf := br_neg c6 hf
          refine lv_aload_n hx hb dX8_member_37 rfl (lv_at hl 1 rfl) ?_
          refine va_get (D := D) (ci := 8) (v := .ref a_first) (C := RX8) (T := TX8) (N := 17) hx hb hts z2 hown hN.1 hP 0 rfl rfl 7 (by decide) z3 (fun _ h9 => h9) rfl dX8_member_38 ?_
          refine lv_iload_n hx hb dX8_member_41 rfl (lv_at hl 3 rfl) ?_
          obtain ⟨c7, hf⟩ := gd_some hf
          refine va_iald hx hb hN.1 hP 2 0 rfl rfl (ix_in c7) dX8_member_42 ?_
          refine lv_goto (tgt := 48) hx hb dX8_member_43 (by decide) ?_
          have hE : (u4.2 q2.toNatClampNeg, u4.2) = (r0, v_first) := Option.some.inj hf
          simp only [Prod.mk.injEq] at hE
          obtain ⟨rfl, rfl⟩ := hE
          exact rtI hx hb hr hlk hP hD hS dX8_member_48
      · have hf := br_neg c5 hf
        refine lv_iload_n hx hb dX8_member_28 rfl (lv_at hl 0 rfl) ?_
        refine lv_goto (tgt := 48) hx hb dX8_member_29 (by decide) ?_
        have hE : (u4.1, u4.2) = (r0, v_first) := Option.some.inj hf
        simp only [Prod.mk.injEq] at hE
        obtain ⟨rfl, rfl⟩ := hE
        exact rtI hx hb hr hlk hP hD hS dX8_member_48
    · have hf := br_neg c3 hf
      refine lv_iconst (v := -1) hx hb dX8_member_12 (by decide) ?_
      have hE : ((-1 : Int32), g_first) = (r0, v_first) := Option.some.inj hf
      simp only [Prod.mk.injEq] at hE
      obtain ⟨rfl, rfl⟩ := hE
      exact rtI hx hb hr hlk hP hD hS dX8_member_13
abbrev rmX8_sum : Room := { frames := 2, cells := 0, slots := 0, locals := 51 }
noncomputable def bX8_sum_34 (g_now : Nat → Int32) (g_first : Nat → Int32) (g_second : Nat → Int32) (g_sums : Nat → Int32) : Option (Int32 × (Nat → Int32) × (Nat → Int32) × (Nat → Int32)) := some (((-1 : Int32), g_first, g_second, g_sums))
noncomputable def fX8_sum (q1 : Int32) (q2 : Int32) (q3 : Int32) (g_now : Nat → Int32) (g_first : Nat → Int32) (g_second : Nat → Int32) (g_sums : Nat → Int32) : Option (Int32 × (Nat → Int32) × (Nat → Int32) × (Nat → Int32)) := bd (fX8_isSlot q1) (fun u1 => br (u1 = 0) (bX8_sum_34 g_now g_first g_second g_sums) (bd (fX8_isSlot q2) (fun u3 => br (u3 = 0) (bX8_sum_34 g_now g_first g_second g_sums) (br (q3 < (-1 : Int32)) (bX8_sum_34 g_now g_first g_second g_sums) (bd (fX8_adds q1 q2 (1 : Int32) g_now g_first g_second g_sums) (fun u6 => bd (fX8_told u6.1 q3 u6.2.2.2) (fun u7 => some ((u7, u6.2.1, u6.2.2.1, u6.2.2.2)))))))))
set_option maxHeartbeats 4000000 in
set_option maxRecDepth 100000 in
theorem cX8_sum_ct (l : Launch) (D : va_G) (cI cL cC cZ : ClassId) (a_this a_text a_now a_before a_read a_first a_second a_sums a_other a_grid a_order : Nat) (g_length : Int32) (g_undoMany : Int32) (g_spot : Int32) (g_step : Int32) (g_coverMany : Int32) (g_leastSums : Int32) (g_leastPart : Int32) (g_now : Nat → Int32) (g_first : Nat → Int32) (g_second : Nat → Int32) (g_sums : Nat → Int32) (q1 : Int32) (q2 : Int32) (q3 : Int32) (r0 : Int32) (v_first : Nat → Int32) (v_second : Nat → Int32) (v_sums : Nat → Int32) (hf : fX8_sum q1 q2 q3 g_now g_first g_second g_sums = some ((r0, v_first, v_second, v_sums))) : CtI l yX8_sum wsX8_sum rmX8_sum D (tyz cI cL cC cZ) [.ref a_this, .int q1, .int q2, .int q3] [(a_this, .inr (8, [.int g_length, .ref a_text, .ref a_now, .ref a_before, .int g_undoMany, .ref a_read, .int g_spot, .ref a_first, .ref a_second, .ref a_sums, .ref a_other, .int g_step, .int g_coverMany, .ref a_grid, .ref a_order, .int g_leastSums, .int g_leastPart])), (a_now, .inl (cZ, 164, .inl g_now)), (a_first, .inl (cI, 41, .inl g_first)), (a_second, .inl (cI, 41, .inl g_second)), (a_sums, .inl (cZ, 241, .inl g_sums))] [(a_this, .inr (8, [.int g_length, .ref a_text, .ref a_now, .ref a_before, .int g_undoMany, .ref a_read, .int g_spot, .ref a_first, .ref a_second, .ref a_sums, .ref a_other, .int g_step, .int g_coverMany, .ref a_grid, .ref a_order, .int g_leastSums, .int g_leastPart])), (a_now, .inl (cZ, 164, .inl g_now)), (a_first, .inl (cI, 41, .inl v_first)), (a_second, .inl (cI, 41, .inl v_second)), (a_sums, .inl (cZ, 241, .inl v_sums))] r0 := by
  refine CtI.make (cc := cX8_sum) (maxL := 4) (ty := .int) (by decide) rfl (Nat.le_of_ble_eq_true rfl) ?_
  intro p e s m below meth c A ls C0 hN hA hP hD hl
  obtain ⟨hx, hb, hr, hml, hown, hts, hlk⟩ := id C0
  have hown : s.vm.findClass RX8 = some m.cls := hown
  have hS : va_S A s.heap s.heap [] := va_S.rf
  have hP : va_P D vwCl [(a_this, .inr (8, [.int g_length, .ref a_text, .ref a_now, .ref a_before, .int g_undoMany, .ref a_read, .int g_spot, .ref a_first, .ref a_second, .ref a_sums, .ref a_other, .int g_step, .int g_coverMany, .ref a_grid, .ref a_order, .int g_leastSums, .int g_leastPart])), (a_now, .inl (cZ, 164, .inl g_now)), (a_first, .inl (cI, 41, .inl g_first)), (a_second, .inl (cI, 41, .inl g_second)), (a_sums, .inl (cZ, 241, .inl g_sums))] s.heap := hP
  have hD : va_D A [(a_this, .inr (8, [.int g_length, .ref a_text, .ref a_now, .ref a_before, .int g_undoMany, .ref a_read, .int g_spot, .ref a_first, .ref a_second, .ref a_sums, .ref a_other, .int g_step, .int g_coverMany, .ref a_grid, .ref a_order, .int g_leastSums, .int g_leastPart])), (a_now, .inl (cZ, 164, .inl g_now)), (a_first, .inl (cI, 41, .inl g_first)), (a_second, .inl (cI, 41, .inl g_second)), (a_sums, .inl (cZ, 241, .inl g_sums))] := hD
  have hl : lv_has ls 4 [(0, .ref a_this), (1, .int q1), (2, .int q2), (3, .int q3)] := hl
  have z1 := va_cwS (R := rmX8_sum) (rm := rmX8_isSlot) (mc := 0) (ms := 0) 1 hts gX8_sum_X8_isSlot rfl rfl rfl (by decide +kernel) ⟨Nat.le_of_ble_eq_true rfl, Nat.le_of_ble_eq_true rfl⟩
  have z2 := cwV (R := rmX8_sum) (rm := rmX8_adds) (mc := 0) (ms := 0) 3 hts gX8_sum_X8_adds rfl rfl rfl (by decide +kernel) ⟨Nat.le_of_ble_eq_true rfl, Nat.le_of_ble_eq_true rfl⟩
  have z3 := cwV (R := rmX8_sum) (rm := rmX8_told) (mc := 0) (ms := 0) 2 hts gX8_sum_X8_told rfl rfl rfl (by decide +kernel) ⟨Nat.le_of_ble_eq_true rfl, Nat.le_of_ble_eq_true rfl⟩
  have w34 : ∀ (g_now : Nat → Int32) (g_first : Nat → Int32) (g_second : Nat → Int32) (g_sums : Nat → Int32) (H : Heap) (locs : List Loc) (ls : Array Slot), bX8_sum_34 g_now g_first g_second g_sums = some ((r0, v_first, v_second, v_sums)) → va_P D vwCl [(a_this, .inr (8, [.int g_length, .ref a_text, .ref a_now, .ref a_before, .int g_undoMany, .ref a_read, .int g_spot, .ref a_first, .ref a_second, .ref a_sums, .ref a_other, .int g_step, .int g_coverMany, .ref a_grid, .ref a_order, .int g_leastSums, .int g_leastPart])), (a_now, .inl (cZ, 164, .inl g_now)), (a_first, .inl (cI, 41, .inl g_first)), (a_second, .inl (cI, 41, .inl g_second)), (a_sums, .inl (cZ, 241, .inl g_sums))] H → va_D A [(a_this, .inr (8, [.int g_length, .ref a_text, .ref a_now, .ref a_before, .int g_undoMany, .ref a_read, .int g_spot, .ref a_first, .ref a_second, .ref a_sums, .ref a_other, .int g_step, .int g_coverMany, .ref a_grid, .ref a_order, .int g_leastSums, .int g_leastPart])), (a_now, .inl (cZ, 164, .inl g_now)), (a_first, .inl (cI, 41, .inl g_first)), (a_second, .inl (cI, 41, .inl g_second)), (a_sums, .inl (cZ, 241, .inl g_sums))] → va_S A s.heap H locs → lv_has ls 4 [] → W p l e rmX8_sum s m ([.ref a_this, .int q1, .int q2, .int q3] : List Value).toArray below meth c H locs 0 0 (MQ below (cQi D r0 A [(a_this, .inr (8, [.int g_length, .ref a_text, .ref a_now, .ref a_before, .int g_undoMany, .ref a_read, .int g_spot, .ref a_first, .ref a_second, .ref a_sums, .ref a_other, .int g_step, .int g_coverMany, .ref a_grid, .ref a_order, .int g_leastSums, .int g_leastPart])), (a_now, .inl (cZ, 164, .inl g_now)), (a_first, .inl (cI, 41, .inl v_first)), (a_second, .inl (cI, 41, .inl v_second)), (a_sums, .inl (cZ, 241, .inl v_sums))]) ([.ref a_this, .int q1, .int q2, .int q3] : List Value).toArray s 0 0 A) (F0 m 34 ls []) := by
    intro g_now g_first g_second g_sums H locs ls hf hP hD hS hl
    unfold bX8_sum_34 at hf
    refine lv_iconst (v := -1) hx hb dX8_sum_34 (by decide) ?_
    have hE : ((-1 : Int32), g_first, g_second, g_sums) = (r0, v_first, v_second, v_sums) := Option.some.inj hf
    simp only [Prod.mk.injEq] at hE
    obtain ⟨rfl, rfl, rfl, rfl⟩ := hE
    exact rtI hx hb hr hlk hP hD hS dX8_sum_35
  unfold fX8_sum at hf
  obtain ⟨H, eH⟩ : ∃ z, z = s.heap := ⟨_, rfl⟩
  obtain ⟨locs, eL⟩ : ∃ z : List Loc, z = [] := ⟨_, rfl⟩
  have hP : va_P D vwCl [(a_this, .inr (8, [.int g_length, .ref a_text, .ref a_now, .ref a_before, .int g_undoMany, .ref a_read, .int g_spot, .ref a_first, .ref a_second, .ref a_sums, .ref a_other, .int g_step, .int g_coverMany, .ref a_grid, .ref a_order, .int g_leastSums, .int g_leastPart])), (a_now, .inl (cZ, 164, .inl g_now)), (a_first, .inl (cI, 41, .inl g_first)), (a_second, .inl (cI, 41, .inl g_second)), (a_sums, .inl (cZ, 241, .inl g_sums))] H := by rw [eH]; exact hP
  have hS : va_S A s.heap H locs := by rw [eH, eL]; exact hS
  suffices hG : W p l e rmX8_sum s m ([.ref a_this, .int q1, .int q2, .int q3] : List Value).toArray below meth c H locs 0 0 (MQ below (cQi D r0 A [(a_this, .inr (8, [.int g_length, .ref a_text, .ref a_now, .ref a_before, .int g_undoMany, .ref a_read, .int g_spot, .ref a_first, .ref a_second, .ref a_sums, .ref a_other, .int g_step, .int g_coverMany, .ref a_grid, .ref a_order, .int g_leastSums, .int g_leastPart])), (a_now, .inl (cZ, 164, .inl g_now)), (a_first, .inl (cI, 41, .inl v_first)), (a_second, .inl (cI, 41, .inl v_second)), (a_sums, .inl (cZ, 241, .inl v_sums))]) ([.ref a_this, .int q1, .int q2, .int q3] : List Value).toArray s 0 0 A) (F0 m 0 ls []) by rw [eH, eL] at hG; exact hG
  refine lv_iload_n hx hb dX8_sum_0 rfl (lv_at hl 1 rfl) ?_
  obtain ⟨u1, hu1, hf⟩ := bd_some hf
  refine caSI (rest := []) (As := [.int q1]) (wr := [(a_this, .inr (8, [.int g_length, .ref a_text, .ref a_now, .ref a_before, .int g_undoMany, .ref a_read, .int g_spot, .ref a_first, .ref a_second, .ref a_sums, .ref a_other, .int g_step, .int g_coverMany, .ref a_grid, .ref a_order, .int g_leastSums, .int g_leastPart])), (a_now, .inl (cZ, 164, .inl g_now)), (a_first, .inl (cI, 41, .inl g_first)), (a_second, .inl (cI, 41, .inl g_second)), (a_sums, .inl (cZ, 241, .inl g_sums))]) (wo := [(a_this, .inr (8, [.int g_length, .ref a_text, .ref a_now, .ref a_before, .int g_undoMany, .ref a_read, .int g_spot, .ref a_first, .ref a_second, .ref a_sums, .ref a_other, .int g_step, .int g_coverMany, .ref a_grid, .ref a_order, .int g_leastSums, .int g_leastPart])), (a_now, .inl (cZ, 164, .inl g_now)), (a_first, .inl (cI, 41, .inl g_first)), (a_second, .inl (cI, 41, .inl g_second)), (a_sums, .inl (cZ, 241, .inl g_sums))]) ⟨hx, hb, hml, hown, hts⟩ hN hP hD hS hA (cX8_isSlot_ct l D cI cL cC cZ q1 u1 hu1) z1 [] [0, 1, 2, 3, 4] [0, 1, 2, 3, 4] rfl (by decide) rfl (by decide) (by decide) rfl (by decide) rfl hl.1 rfl (Nat.le_of_ble_eq_true rfl) dX8_sum_1 ⟨Nat.zero_le _, Nat.zero_le _⟩ (fun H locs hP hD hS => ?_)
  refine lv_if_eq (tgt := 34) hx hb dX8_sum_4 (by decide) (fun c2 => ?_) (fun c2 => ?_)
  · have hf := br_pos c2 hf
    exact w34 g_now g_first g_second g_sums H locs ls hf hP hD hS (lv_sub hl [] rfl)
  · have hf := br_neg c2 hf
    refine lv_iload_n hx hb dX8_sum_7 rfl (lv_at hl 2 rfl) ?_
    obtain ⟨u3, hu3, hf⟩ := bd_some hf
    refine caSI (rest := []) (As := [.int q2]) (wr := [(a_this, .inr (8, [.int g_length, .ref a_text, .ref a_now, .ref a_before, .int g_undoMany, .ref a_read, .int g_spot, .ref a_first, .ref a_second, .ref a_sums, .ref a_other, .int g_step, .int g_coverMany, .ref a_grid, .ref a_order, .int g_leastSums, .int g_leastPart])), (a_now, .inl (cZ, 164, .inl g_now)), (a_first, .inl (cI, 41, .inl g_first)), (a_second, .inl (cI, 41, .inl g_second)), (a_sums, .inl (cZ, 241, .inl g_sums))]) (wo := [(a_this, .inr (8, [.int g_length, .ref a_text, .ref a_now, .ref a_before, .int g_undoMany, .ref a_read, .int g_spot, .ref a_first, .ref a_second, .ref a_sums, .ref a_other, .int g_step, .int g_coverMany, .ref a_grid, .ref a_order, .int g_leastSums, .int g_leastPart])), (a_now, .inl (cZ, 164, .inl g_now)), (a_first, .inl (cI, 41, .inl g_first)), (a_second, .inl (cI, 41, .inl g_second)), (a_sums, .inl (cZ, 241, .inl g_sums))]) ⟨hx, hb, hml, hown, hts⟩ hN hP hD hS hA (cX8_isSlot_ct l D cI cL cC cZ q2 u3 hu3) z1 [] [0, 1, 2, 3, 4] [0, 1, 2, 3, 4] rfl (by decide) rfl (by decide) (by decide) rfl (by decide) rfl hl.1 rfl (Nat.le_of_ble_eq_true rfl) dX8_sum_8 ⟨Nat.zero_le _, Nat.zero_le _⟩ (fun H locs hP hD hS => ?_)
    refine lv_if_eq (tgt := 34) hx hb dX8_sum_11 (by decide) (fun c4 => ?_) (fun c4 => ?_)
    · have hf := br_pos c4 hf
      exact w34 g_now g_first g_second g_sums H locs ls hf hP hD hS (lv_sub hl [] rfl)
    · have hf := br_neg c4 hf
      refine lv_iload_n hx hb dX8_sum_14 rfl (lv_at hl 3 rfl) ?_
      refine lv_iconst (v := -1) hx hb dX8_sum_15 (by decide) ?_
      refine lv_icmp_lt (tgt := 34) hx hb dX8_sum_16 (by decide) (fun c5 => ?_) (fun c5 => ?_)
      · have hf := br_pos c5 hf
        exact w34 g_now g_first g_second g_sums H locs ls hf hP hD hS (lv_sub hl [] rfl)
      · have hf := br_neg c5 hf
        refine lv_aload_n hx hb dX8_sum_19 rfl (lv_at hl 0 rfl) ?_
        refine lv_aload_n hx hb dX8_sum_20 rfl (lv_at hl 0 rfl) ?_
        refine lv_iload_n hx hb dX8_sum_21 rfl (lv_at hl 1 rfl) ?_
        refine lv_iload_n hx hb dX8_sum_22 rfl (lv_at hl 2 rfl) ?_
        refine lv_iconst (v := 1) hx hb dX8_sum_23 (by decide) ?_
        obtain ⟨u6, hu6, hf⟩ := bd_some hf
        refine caVI (rest := [.ref a_this]) (As := [.int q1, .int q2, .int (1 : Int32)]) (wr := []) (wo := [(a_this, .inr (8, [.int g_length, .ref a_text, .ref a_now, .ref a_before, .int g_undoMany, .ref a_read, .int g_spot, .ref a_first, .ref a_second, .ref a_sums, .ref a_other, .int g_step, .int g_coverMany, .ref a_grid, .ref a_order, .int g_leastSums, .int g_leastPart])), (a_now, .inl (cZ, 164, .inl g_now)), (a_first, .inl (cI, 41, .inl u6.2.1)), (a_second, .inl (cI, 41, .inl u6.2.2.1)), (a_sums, .inl (cZ, 241, .inl u6.2.2.2))]) ⟨hx, hb, hml, hown, hts⟩ hN hP hD hS hA (cX8_adds_ct l D cI cL cC cZ a_this a_text a_now a_before a_read a_first a_second a_sums a_other a_grid a_order g_length g_undoMany g_spot g_step g_coverMany g_leastSums g_leastPart g_now g_first g_second g_sums q1 q2 (1 : Int32) u6.1 u6.2.1 u6.2.2.1 u6.2.2.2 hu6) z2 0 8 rfl rfl [0, 1, 2, 3, 4] [] [0, 1, 2, 3, 4] rfl (by decide) rfl (by decide) (by decide) rfl (by decide) rfl hl.1 rfl (Nat.le_of_ble_eq_true rfl) dX8_sum_24 ⟨Nat.zero_le _, Nat.zero_le _⟩ (fun H locs hP hD hS => ?_)
        refine lv_iload_n hx hb dX8_sum_27 rfl (lv_at hl 3 rfl) ?_
        obtain ⟨u7, hu7, hf⟩ := bd_some hf
        refine caVI (rest := []) (As := [.int u6.1, .int q3]) (wr := [(a_now, .inl (cZ, 164, .inl g_now)), (a_first, .inl (cI, 41, .inl u6.2.1)), (a_second, .inl (cI, 41, .inl u6.2.2.1))]) (wo := [(a_this, .inr (8, [.int g_length, .ref a_text, .ref a_now, .ref a_before, .int g_undoMany, .ref a_read, .int g_spot, .ref a_first, .ref a_second, .ref a_sums, .ref a_other, .int g_step, .int g_coverMany, .ref a_grid, .ref a_order, .int g_leastSums, .int g_leastPart])), (a_now, .inl (cZ, 164, .inl g_now)), (a_first, .inl (cI, 41, .inl u6.2.1)), (a_second, .inl (cI, 41, .inl u6.2.2.1)), (a_sums, .inl (cZ, 241, .inl u6.2.2.2))]) ⟨hx, hb, hml, hown, hts⟩ hN hP hD hS hA (cX8_told_ct l D cI cL cC cZ a_this a_text a_now a_before a_read a_first a_second a_sums a_other a_grid a_order g_length g_undoMany g_spot g_step g_coverMany g_leastSums g_leastPart u6.2.2.2 u6.1 q3 u7 hu7) z3 0 8 rfl rfl [0, 4] [1, 2, 3] [3, 0, 1, 2, 4] rfl (by decide) rfl (by decide) (by decide) rfl (by decide) rfl hl.1 rfl (Nat.le_of_ble_eq_true rfl) dX8_sum_28 ⟨Nat.zero_le _, Nat.zero_le _⟩ (fun H locs hP hD hS => ?_)
        refine lv_goto (tgt := 35) hx hb dX8_sum_31 (by decide) ?_
        have hE : (u7, u6.2.1, u6.2.2.1, u6.2.2.2) = (r0, v_first, v_second, v_sums) := Option.some.inj hf
        simp only [Prod.mk.injEq] at hE
        obtain ⟨rfl, rfl, rfl, rfl⟩ := hE
        exact rtI hx hb hr hlk hP hD hS dX8_sum_35
abbrev rmX8_difference : Room := { frames := 2, cells := 0, slots := 0, locals := 51 }
noncomputable def bX8_difference_34 (g_now : Nat → Int32) (g_first : Nat → Int32) (g_second : Nat → Int32) (g_sums : Nat → Int32) : Option (Int32 × (Nat → Int32) × (Nat → Int32) × (Nat → Int32)) := some (((-1 : Int32), g_first, g_second, g_sums))
noncomputable def fX8_difference (q1 : Int32) (q2 : Int32) (q3 : Int32) (g_now : Nat → Int32) (g_first : Nat → Int32) (g_second : Nat → Int32) (g_sums : Nat → Int32) : Option (Int32 × (Nat → Int32) × (Nat → Int32) × (Nat → Int32)) := bd (fX8_isSlot q1) (fun u1 => br (u1 = 0) (bX8_difference_34 g_now g_first g_second g_sums) (bd (fX8_isSlot q2) (fun u3 => br (u3 = 0) (bX8_difference_34 g_now g_first g_second g_sums) (br (q3 < (-1 : Int32)) (bX8_difference_34 g_now g_first g_second g_sums) (bd (fX8_adds q1 q2 (-1 : Int32) g_now g_first g_second g_sums) (fun u6 => bd (fX8_told u6.1 q3 u6.2.2.2) (fun u7 => some ((u7, u6.2.1, u6.2.2.1, u6.2.2.2)))))))))
set_option maxHeartbeats 4000000 in
set_option maxRecDepth 100000 in
theorem cX8_difference_ct (l : Launch) (D : va_G) (cI cL cC cZ : ClassId) (a_this a_text a_now a_before a_read a_first a_second a_sums a_other a_grid a_order : Nat) (g_length : Int32) (g_undoMany : Int32) (g_spot : Int32) (g_step : Int32) (g_coverMany : Int32) (g_leastSums : Int32) (g_leastPart : Int32) (g_now : Nat → Int32) (g_first : Nat → Int32) (g_second : Nat → Int32) (g_sums : Nat → Int32) (q1 : Int32) (q2 : Int32) (q3 : Int32) (r0 : Int32) (v_first : Nat → Int32) (v_second : Nat → Int32) (v_sums : Nat → Int32) (hf : fX8_difference q1 q2 q3 g_now g_first g_second g_sums = some ((r0, v_first, v_second, v_sums))) : CtI l yX8_difference wsX8_difference rmX8_difference D (tyz cI cL cC cZ) [.ref a_this, .int q1, .int q2, .int q3] [(a_this, .inr (8, [.int g_length, .ref a_text, .ref a_now, .ref a_before, .int g_undoMany, .ref a_read, .int g_spot, .ref a_first, .ref a_second, .ref a_sums, .ref a_other, .int g_step, .int g_coverMany, .ref a_grid, .ref a_order, .int g_leastSums, .int g_leastPart])), (a_now, .inl (cZ, 164, .inl g_now)), (a_first, .inl (cI, 41, .inl g_first)), (a_second, .inl (cI, 41, .inl g_second)), (a_sums, .inl (cZ, 241, .inl g_sums))] [(a_this, .inr (8, [.int g_length, .ref a_text, .ref a_now, .ref a_before, .int g_undoMany, .ref a_read, .int g_spot, .ref a_first, .ref a_second, .ref a_sums, .ref a_other, .int g_step, .int g_coverMany, .ref a_grid, .ref a_order, .int g_leastSums, .int g_leastPart])), (a_now, .inl (cZ, 164, .inl g_now)), (a_first, .inl (cI, 41, .inl v_first)), (a_second, .inl (cI, 41, .inl v_second)), (a_sums, .inl (cZ, 241, .inl v_sums))] r0 := by
  refine CtI.make (cc := cX8_difference) (maxL := 4) (ty := .int) (by decide) rfl (Nat.le_of_ble_eq_true rfl) ?_
  intro p e s m below meth c A ls C0 hN hA hP hD hl
  obtain ⟨hx, hb, hr, hml, hown, hts, hlk⟩ := id C0
  have hown : s.vm.findClass RX8 = some m.cls := hown
  have hS : va_S A s.heap s.heap [] := va_S.rf
  have hP : va_P D vwCl [(a_this, .inr (8, [.int g_length, .ref a_text, .ref a_now, .ref a_before, .int g_undoMany, .ref a_read, .int g_spot, .ref a_first, .ref a_second, .ref a_sums, .ref a_other, .int g_step, .int g_coverMany, .ref a_grid, .ref a_order, .int g_leastSums, .int g_leastPart])), (a_now, .inl (cZ, 164, .inl g_now)), (a_first, .inl (cI, 41, .inl g_first)), (a_second, .inl (cI, 41, .inl g_second)), (a_sums, .inl (cZ, 241, .inl g_sums))] s.heap := hP
  have hD : va_D A [(a_this, .inr (8, [.int g_length, .ref a_text, .ref a_now, .ref a_before, .int g_undoMany, .ref a_read, .int g_spot, .ref a_first, .ref a_second, .ref a_sums, .ref a_other, .int g_step, .int g_coverMany, .ref a_grid, .ref a_order, .int g_leastSums, .int g_leastPart])), (a_now, .inl (cZ, 164, .inl g_now)), (a_first, .inl (cI, 41, .inl g_first)), (a_second, .inl (cI, 41, .inl g_second)), (a_sums, .inl (cZ, 241, .inl g_sums))] := hD
  have hl : lv_has ls 4 [(0, .ref a_this), (1, .int q1), (2, .int q2), (3, .int q3)] := hl
  have z1 := va_cwS (R := rmX8_difference) (rm := rmX8_isSlot) (mc := 0) (ms := 0) 1 hts gX8_difference_X8_isSlot rfl rfl rfl (by decide +kernel) ⟨Nat.le_of_ble_eq_true rfl, Nat.le_of_ble_eq_true rfl⟩
  have z2 := cwV (R := rmX8_difference) (rm := rmX8_adds) (mc := 0) (ms := 0) 3 hts gX8_difference_X8_adds rfl rfl rfl (by decide +kernel) ⟨Nat.le_of_ble_eq_true rfl, Nat.le_of_ble_eq_true rfl⟩
  have z3 := cwV (R := rmX8_difference) (rm := rmX8_told) (mc := 0) (ms := 0) 2 hts gX8_difference_X8_told rfl rfl rfl (by decide +kernel) ⟨Nat.le_of_ble_eq_true rfl, Nat.le_of_ble_eq_true rfl⟩
  have w34 : ∀ (g_now : Nat → Int32) (g_first : Nat → Int32) (g_second : Nat → Int32) (g_sums : Nat → Int32) (H : Heap) (locs : List Loc) (ls : Array Slot), bX8_difference_34 g_now g_first g_second g_sums = some ((r0, v_first, v_second, v_sums)) → va_P D vwCl [(a_this, .inr (8, [.int g_length, .ref a_text, .ref a_now, .ref a_before, .int g_undoMany, .ref a_read, .int g_spot, .ref a_first, .ref a_second, .ref a_sums, .ref a_other, .int g_step, .int g_coverMany, .ref a_grid, .ref a_order, .int g_leastSums, .int g_leastPart])), (a_now, .inl (cZ, 164, .inl g_now)), (a_first, .inl (cI, 41, .inl g_first)), (a_second, .inl (cI, 41, .inl g_second)), (a_sums, .inl (cZ, 241, .inl g_sums))] H → va_D A [(a_this, .inr (8, [.int g_length, .ref a_text, .ref a_now, .ref a_before, .int g_undoMany, .ref a_read, .int g_spot, .ref a_first, .ref a_second, .ref a_sums, .ref a_other, .int g_step, .int g_coverMany, .ref a_grid, .ref a_order, .int g_leastSums, .int g_leastPart])), (a_now, .inl (cZ, 164, .inl g_now)), (a_first, .inl (cI, 41, .inl g_first)), (a_second, .inl (cI, 41, .inl g_second)), (a_sums, .inl (cZ, 241, .inl g_sums))] → va_S A s.heap H locs → lv_has ls 4 [] → W p l e rmX8_difference s m ([.ref a_this, .int q1, .int q2, .int q3] : List Value).toArray below meth c H locs 0 0 (MQ below (cQi D r0 A [(a_this, .inr (8, [.int g_length, .ref a_text, .ref a_now, .ref a_before, .int g_undoMany, .ref a_read, .int g_spot, .ref a_first, .ref a_second, .ref a_sums, .ref a_other, .int g_step, .int g_coverMany, .ref a_grid, .ref a_order, .int g_leastSums, .int g_leastPart])), (a_now, .inl (cZ, 164, .inl g_now)), (a_first, .inl (cI, 41, .inl v_first)), (a_second, .inl (cI, 41, .inl v_second)), (a_sums, .inl (cZ, 241, .inl v_sums))]) ([.ref a_this, .int q1, .int q2, .int q3] : List Value).toArray s 0 0 A) (F0 m 34 ls []) := by
    intro g_now g_first g_second g_sums H locs ls hf hP hD hS hl
    unfold bX8_difference_34 at hf
    refine lv_iconst (v := -1) hx hb dX8_difference_34 (by decide) ?_
    have hE : ((-1 : Int32), g_first, g_second, g_sums) = (r0, v_first, v_second, v_sums) := Option.some.inj hf
    simp only [Prod.mk.injEq] at hE
    obtain ⟨rfl, rfl, rfl, rfl⟩ := hE
    exact rtI hx hb hr hlk hP hD hS dX8_difference_35
  unfold fX8_difference at hf
  obtain ⟨H, eH⟩ : ∃ z, z = s.heap := ⟨_, rfl⟩
  obtain ⟨locs, eL⟩ : ∃ z : List Loc, z = [] := ⟨_, rfl⟩
  have hP : va_P D vwCl [(a_this, .inr (8, [.int g_length, .ref a_text, .ref a_now, .ref a_before, .int g_undoMany, .ref a_read, .int g_spot, .ref a_first, .ref a_second, .ref a_sums, .ref a_other, .int g_step, .int g_coverMany, .ref a_grid, .ref a_order, .int g_leastSums, .int g_leastPart])), (a_now, .inl (cZ, 164, .inl g_now)), (a_first, .inl (cI, 41, .inl g_first)), (a_second, .inl (cI, 41, .inl g_second)), (a_sums, .inl (cZ, 241, .inl g_sums))] H := by rw [eH]; exact hP
  have hS : va_S A s.heap H locs := by rw [eH, eL]; exact hS
  suffices hG : W p l e rmX8_difference s m ([.ref a_this, .int q1, .int q2, .int q3] : List Value).toArray below meth c H locs 0 0 (MQ below (cQi D r0 A [(a_this, .inr (8, [.int g_length, .ref a_text, .ref a_now, .ref a_before, .int g_undoMany, .ref a_read, .int g_spot, .ref a_first, .ref a_second, .ref a_sums, .ref a_other, .int g_step, .int g_coverMany, .ref a_grid, .ref a_order, .int g_leastSums, .int g_leastPart])), (a_now, .inl (cZ, 164, .inl g_now)), (a_first, .inl (cI, 41, .inl v_first)), (a_second, .inl (cI, 41, .inl v_second)), (a_sums, .inl (cZ, 241, .inl v_sums))]) ([.ref a_this, .int q1, .int q2, .int q3] : List Value).toArray s 0 0 A) (F0 m 0 ls []) by rw [eH, eL] at hG; exact hG
  refine lv_iload_n hx hb dX8_difference_0 rfl (lv_at hl 1 rfl) ?_
  obtain ⟨u1, hu1, hf⟩ := bd_some hf
  refine caSI (rest := []) (As := [.int q1]) (wr := [(a_this, .inr (8, [.int g_length, .ref a_text, .ref a_now, .ref a_before, .int g_undoMany, .ref a_read, .int g_spot, .ref a_first, .ref a_second, .ref a_sums, .ref a_other, .int g_step, .int g_coverMany, .ref a_grid, .ref a_order, .int g_leastSums, .int g_leastPart])), (a_now, .inl (cZ, 164, .inl g_now)), (a_first, .inl (cI, 41, .inl g_first)), (a_second, .inl (cI, 41, .inl g_second)), (a_sums, .inl (cZ, 241, .inl g_sums))]) (wo := [(a_this, .inr (8, [.int g_length, .ref a_text, .ref a_now, .ref a_before, .int g_undoMany, .ref a_read, .int g_spot, .ref a_first, .ref a_second, .ref a_sums, .ref a_other, .int g_step, .int g_coverMany, .ref a_grid, .ref a_order, .int g_leastSums, .int g_leastPart])), (a_now, .inl (cZ, 164, .inl g_now)), (a_first, .inl (cI, 41, .inl g_first)), (a_second, .inl (cI, 41, .inl g_second)), (a_sums, .inl (cZ, 241, .inl g_sums))]) ⟨hx, hb, hml, hown, hts⟩ hN hP hD hS hA (cX8_isSlot_ct l D cI cL cC cZ q1 u1 hu1) z1 [] [0, 1, 2, 3, 4] [0, 1, 2, 3, 4] rfl (by decide) rfl (by decide) (by decide) rfl (by decide) rfl hl.1 rfl (Nat.le_of_ble_eq_true rfl) dX8_difference_1 ⟨Nat.zero_le _, Nat.zero_le _⟩ (fun H locs hP hD hS => ?_)
  refine lv_if_eq (tgt := 34) hx hb dX8_difference_4 (by decide) (fun c2 => ?_) (fun c2 => ?_)
  · have hf := br_pos c2 hf
    exact w34 g_now g_first g_second g_sums H locs ls hf hP hD hS (lv_sub hl [] rfl)
  · have hf := br_neg c2 hf
    refine lv_iload_n hx hb dX8_difference_7 rfl (lv_at hl 2 rfl) ?_
    obtain ⟨u3, hu3, hf⟩ := bd_some hf
    refine caSI (rest := []) (As := [.int q2]) (wr := [(a_this, .inr (8, [.int g_length, .ref a_text, .ref a_now, .ref a_before, .int g_undoMany, .ref a_read, .int g_spot, .ref a_first, .ref a_second, .ref a_sums, .ref a_other, .int g_step, .int g_coverMany, .ref a_grid, .ref a_order, .int g_leastSums, .int g_leastPart])), (a_now, .inl (cZ, 164, .inl g_now)), (a_first, .inl (cI, 41, .inl g_first)), (a_second, .inl (cI, 41, .inl g_second)), (a_sums, .inl (cZ, 241, .inl g_sums))]) (wo := [(a_this, .inr (8, [.int g_length, .ref a_text, .ref a_now, .ref a_before, .int g_undoMany, .ref a_read, .int g_spot, .ref a_first, .ref a_second, .ref a_sums, .ref a_other, .int g_step, .int g_coverMany, .ref a_grid, .ref a_order, .int g_leastSums, .int g_leastPart])), (a_now, .inl (cZ, 164, .inl g_now)), (a_first, .inl (cI, 41, .inl g_first)), (a_second, .inl (cI, 41, .inl g_second)), (a_sums, .inl (cZ, 241, .inl g_sums))]) ⟨hx, hb, hml, hown, hts⟩ hN hP hD hS hA (cX8_isSlot_ct l D cI cL cC cZ q2 u3 hu3) z1 [] [0, 1, 2, 3, 4] [0, 1, 2, 3, 4] rfl (by decide) rfl (by decide) (by decide) rfl (by decide) rfl hl.1 rfl (Nat.le_of_ble_eq_true rfl) dX8_difference_8 ⟨Nat.zero_le _, Nat.zero_le _⟩ (fun H locs hP hD hS => ?_)
    refine lv_if_eq (tgt := 34) hx hb dX8_difference_11 (by decide) (fun c4 => ?_) (fun c4 => ?_)
    · have hf := br_pos c4 hf
      exact w34 g_now g_first g_second g_sums H locs ls hf hP hD hS (lv_sub hl [] rfl)
    · have hf := br_neg c4 hf
      refine lv_iload_n hx hb dX8_difference_14 rfl (lv_at hl 3 rfl) ?_
      refine lv_iconst (v := -1) hx hb dX8_difference_15 (by decide) ?_
      refine lv_icmp_lt (tgt := 34) hx hb dX8_difference_16 (by decide) (fun c5 => ?_) (fun c5 => ?_)
      · have hf := br_pos c5 hf
        exact w34 g_now g_first g_second g_sums H locs ls hf hP hD hS (lv_sub hl [] rfl)
      · have hf := br_neg c5 hf
        refine lv_aload_n hx hb dX8_difference_19 rfl (lv_at hl 0 rfl) ?_
        refine lv_aload_n hx hb dX8_difference_20 rfl (lv_at hl 0 rfl) ?_
        refine lv_iload_n hx hb dX8_difference_21 rfl (lv_at hl 1 rfl) ?_
        refine lv_iload_n hx hb dX8_difference_22 rfl (lv_at hl 2 rfl) ?_
        refine lv_iconst (v := -1) hx hb dX8_difference_23 (by decide) ?_
        obtain ⟨u6, hu6, hf⟩ := bd_some hf
        refine caVI (rest := [.ref a_this]) (As := [.int q1, .int q2, .int (-1 : Int32)]) (wr := []) (wo := [(a_this, .inr (8, [.int g_length, .ref a_text, .ref a_now, .ref a_before, .int g_undoMany, .ref a_read, .int g_spot, .ref a_first, .ref a_second, .ref a_sums, .ref a_other, .int g_step, .int g_coverMany, .ref a_grid, .ref a_order, .int g_leastSums, .int g_leastPart])), (a_now, .inl (cZ, 164, .inl g_now)), (a_first, .inl (cI, 41, .inl u6.2.1)), (a_second, .inl (cI, 41, .inl u6.2.2.1)), (a_sums, .inl (cZ, 241, .inl u6.2.2.2))]) ⟨hx, hb, hml, hown, hts⟩ hN hP hD hS hA (cX8_adds_ct l D cI cL cC cZ a_this a_text a_now a_before a_read a_first a_second a_sums a_other a_grid a_order g_length g_undoMany g_spot g_step g_coverMany g_leastSums g_leastPart g_now g_first g_second g_sums q1 q2 (-1 : Int32) u6.1 u6.2.1 u6.2.2.1 u6.2.2.2 hu6) z2 0 8 rfl rfl [0, 1, 2, 3, 4] [] [0, 1, 2, 3, 4] rfl (by decide) rfl (by decide) (by decide) rfl (by decide) rfl hl.1 rfl (Nat.le_of_ble_eq_true rfl) dX8_difference_24 ⟨Nat.zero_le _, Nat.zero_le _⟩ (fun H locs hP hD hS => ?_)
        refine lv_iload_n hx hb dX8_difference_27 rfl (lv_at hl 3 rfl) ?_
        obtain ⟨u7, hu7, hf⟩ := bd_some hf
        refine caVI (rest := []) (As := [.int u6.1, .int q3]) (wr := [(a_now, .inl (cZ, 164, .inl g_now)), (a_first, .inl (cI, 41, .inl u6.2.1)), (a_second, .inl (cI, 41, .inl u6.2.2.1))]) (wo := [(a_this, .inr (8, [.int g_length, .ref a_text, .ref a_now, .ref a_before, .int g_undoMany, .ref a_read, .int g_spot, .ref a_first, .ref a_second, .ref a_sums, .ref a_other, .int g_step, .int g_coverMany, .ref a_grid, .ref a_order, .int g_leastSums, .int g_leastPart])), (a_now, .inl (cZ, 164, .inl g_now)), (a_first, .inl (cI, 41, .inl u6.2.1)), (a_second, .inl (cI, 41, .inl u6.2.2.1)), (a_sums, .inl (cZ, 241, .inl u6.2.2.2))]) ⟨hx, hb, hml, hown, hts⟩ hN hP hD hS hA (cX8_told_ct l D cI cL cC cZ a_this a_text a_now a_before a_read a_first a_second a_sums a_other a_grid a_order g_length g_undoMany g_spot g_step g_coverMany g_leastSums g_leastPart u6.2.2.2 u6.1 q3 u7 hu7) z3 0 8 rfl rfl [0, 4] [1, 2, 3] [3, 0, 1, 2, 4] rfl (by decide) rfl (by decide) (by decide) rfl (by decide) rfl hl.1 rfl (Nat.le_of_ble_eq_true rfl) dX8_difference_28 ⟨Nat.zero_le _, Nat.zero_le _⟩ (fun H locs hP hD hS => ?_)
        refine lv_goto (tgt := 35) hx hb dX8_difference_31 (by decide) ?_
        have hE : (u7, u6.2.1, u6.2.2.1, u6.2.2.2) = (r0, v_first, v_second, v_sums) := Option.some.inj hf
        simp only [Prod.mk.injEq] at hE
        obtain ⟨rfl, rfl, rfl, rfl⟩ := hE
        exact rtI hx hb hr hlk hP hD hS dX8_difference_35
abbrev rmX8_times : Room := { frames := 2, cells := 0, slots := 0, locals := 45 }
noncomputable def bX8_times_182 (x2 : Int32) (x3 : Int32) (x4 : Int32) (x5 : Int32) (g_now : Nat → Int32) (g_first : Nat → Int32) (g_sums : Nat → Int32) (g_other : Nat → Int32) : Option ((Int32 × (Nat → Int32)) ⊕ ((Int32 × (Nat → Int32) × (Nat → Int32)) ⊕ (Int32 × (Nat → Int32) × (Nat → Int32) × (Nat → Int32)))) := lt_ (x5 + (1 : Int32)) (fun y1 => some (Sum.inl ((y1, g_sums))))
noncomputable def bX8_times_144 (x2 : Int32) (x3 : Int32) (x4 : Int32) (x5 : Int32) (g_now : Nat → Int32) (g_first : Nat → Int32) (g_other : Nat → Int32) (x6 : Int32) (g_sums : Nat → Int32) : Option ((Int32 × (Nat → Int32)) ⊕ ((Int32 × (Nat → Int32)) ⊕ ((Int32 × (Nat → Int32) × (Nat → Int32)) ⊕ (Int32 × (Nat → Int32) × (Nat → Int32) × (Nat → Int32))))) := br (x3 ≤ x6) (ml (bX8_times_182 x2 x3 x4 x5 g_now g_first g_sums g_other)) (gd (¬ x5 < 0 ∧ x5.toNatClampNeg < 241) (br ((g_other x5.toNatClampNeg) = 0) (ml (bX8_times_182 x2 x3 x4 x5 g_now g_first g_sums g_other)) (gd (¬ x6 < 0 ∧ x6.toNatClampNeg < 41) (gd (¬ (x5 + (g_first x6.toNatClampNeg)) < 0 ∧ (x5 + (g_first x6.toNatClampNeg)).toNatClampNeg < 241) (lt_ (upd g_sums (x5 + (g_first x6.toNatClampNeg)).toNatClampNeg (vp_nar .boolean (1 : Int32))) (fun y9 => lt_ (x6 + (1 : Int32)) (fun y10 => some (Sum.inl ((y10, y9))))))))))
noncomputable def sX8_times_144 (x2 : Int32) (x3 : Int32) (x4 : Int32) (x5 : Int32) (g_now : Nat → Int32) (g_first : Nat → Int32) (g_other : Nat → Int32) : (Int32 × (Nat → Int32)) → Option ((Int32 × (Nat → Int32)) ⊕ ((Int32 × (Nat → Int32)) ⊕ ((Int32 × (Nat → Int32) × (Nat → Int32)) ⊕ (Int32 × (Nat → Int32) × (Nat → Int32) × (Nat → Int32))))) := fun q => bX8_times_144 x2 x3 x4 x5 g_now g_first g_other q.1 q.2
noncomputable def bX8_times_133 (x2 : Int32) (x3 : Int32) (x4 : Int32) (g_now : Nat → Int32) (g_first : Nat → Int32) (g_other : Nat → Int32) (x5 : Int32) (g_sums : Nat → Int32) : Option ((Int32 × (Nat → Int32)) ⊕ ((Int32 × (Nat → Int32) × (Nat → Int32)) ⊕ (Int32 × (Nat → Int32) × (Nat → Int32) × (Nat → Int32)))) := br ((201 : Int32) ≤ x5) (lt_ (x4 + (1 : Int32)) (fun y12 => some (Sum.inr (Sum.inl ((y12, g_sums, g_other)))))) (run (sX8_times_144 x2 x3 x4 x5 g_now g_first g_other) (((0 : Int32), g_sums)))
noncomputable def sX8_times_133 (x2 : Int32) (x3 : Int32) (x4 : Int32) (g_now : Nat → Int32) (g_first : Nat → Int32) (g_other : Nat → Int32) : (Int32 × (Nat → Int32)) → Option ((Int32 × (Nat → Int32)) ⊕ ((Int32 × (Nat → Int32) × (Nat → Int32)) ⊕ (Int32 × (Nat → Int32) × (Nat → Int32) × (Nat → Int32)))) := fun q => bX8_times_133 x2 x3 x4 g_now g_first g_other q.1 q.2
noncomputable def bX8_times_94 (x2 : Int32) (x3 : Int32) (x4 : Int32) (g_now : Nat → Int32) (g_first : Nat → Int32) (x5 : Int32) (g_sums : Nat → Int32) (g_other : Nat → Int32) : Option ((Int32 × (Nat → Int32) × (Nat → Int32)) ⊕ ((Int32 × (Nat → Int32) × (Nat → Int32)) ⊕ (Int32 × (Nat → Int32) × (Nat → Int32) × (Nat → Int32)))) := br ((241 : Int32) ≤ x5) (ml (run (sX8_times_133 x2 x3 x4 g_now g_first g_other) (((0 : Int32), g_sums)))) (gd (¬ x5 < 0 ∧ x5.toNatClampNeg < 241) (lt_ (g_sums x5.toNatClampNeg) (fun y16 => gd (¬ x5 < 0 ∧ x5.toNatClampNeg < 241) (lt_ (upd g_other x5.toNatClampNeg (vp_nar .boolean y16)) (fun y18 => gd (¬ x5 < 0 ∧ x5.toNatClampNeg < 241) (lt_ (upd g_sums x5.toNatClampNeg (vp_nar .boolean (0 : Int32))) (fun y20 => lt_ (x5 + (1 : Int32)) (fun y21 => some (Sum.inl ((y21, y20, y18)))))))))))
noncomputable def sX8_times_94 (x2 : Int32) (x3 : Int32) (x4 : Int32) (g_now : Nat → Int32) (g_first : Nat → Int32) : (Int32 × (Nat → Int32) × (Nat → Int32)) → Option ((Int32 × (Nat → Int32) × (Nat → Int32)) ⊕ ((Int32 × (Nat → Int32) × (Nat → Int32)) ⊕ (Int32 × (Nat → Int32) × (Nat → Int32) × (Nat → Int32)))) := fun q => bX8_times_94 x2 x3 x4 g_now g_first q.1 q.2.1 q.2.2
noncomputable def bX8_times_85 (x2 : Int32) (x3 : Int32) (g_now : Nat → Int32) (g_first : Nat → Int32) (x4 : Int32) (g_sums : Nat → Int32) (g_other : Nat → Int32) : Option ((Int32 × (Nat → Int32) × (Nat → Int32)) ⊕ (Int32 × (Nat → Int32) × (Nat → Int32) × (Nat → Int32))) := br (x2 ≤ x4) (bd (fX8_ones 241 g_sums) (fun u23 => some (Sum.inr ((u23, g_first, g_sums, g_other))))) (run (sX8_times_94 x2 x3 x4 g_now g_first) (((0 : Int32), g_sums, g_other)))
noncomputable def sX8_times_85 (x2 : Int32) (x3 : Int32) (g_now : Nat → Int32) (g_first : Nat → Int32) : (Int32 × (Nat → Int32) × (Nat → Int32)) → Option ((Int32 × (Nat → Int32) × (Nat → Int32)) ⊕ (Int32 × (Nat → Int32) × (Nat → Int32) × (Nat → Int32))) := fun q => bX8_times_85 x2 x3 g_now g_first q.1 q.2.1 q.2.2
noncomputable def bX8_times_75 (x1 : Int32) (x2 : Int32) (x3 : Int32) (x4 : Int32) (k1 : Int32) (k2 : Int32) (g_now : Nat → Int32) (g_first : Nat → Int32) (g_sums : Nat → Int32) (g_other : Nat → Int32) : Option ((Int32 × (Nat → Int32)) ⊕ (Int32 × (Nat → Int32) × (Nat → Int32) × (Nat → Int32))) := gd (¬ k1 < 0 ∧ k1.toNatClampNeg < 241) (lt_ (upd g_sums k1.toNatClampNeg (vp_nar .boolean k2)) (fun y25 => lt_ (x4 + (1 : Int32)) (fun y26 => some (Sum.inl ((y26, y25))))))
noncomputable def bX8_times_74 (x1 : Int32) (x2 : Int32) (x3 : Int32) (x4 : Int32) (k1 : Int32) (g_now : Nat → Int32) (g_first : Nat → Int32) (g_sums : Nat → Int32) (g_other : Nat → Int32) : Option ((Int32 × (Nat → Int32)) ⊕ (Int32 × (Nat → Int32) × (Nat → Int32) × (Nat → Int32))) := bX8_times_75 x1 x2 x3 x4 k1 (0 : Int32) g_now g_first g_sums g_other
noncomputable def bX8_times_34 (x1 : Int32) (x2 : Int32) (x3 : Int32) (g_now : Nat → Int32) (g_first : Nat → Int32) (g_other : Nat → Int32) (x4 : Int32) (g_sums : Nat → Int32) : Option ((Int32 × (Nat → Int32)) ⊕ (Int32 × (Nat → Int32) × (Nat → Int32) × (Nat → Int32))) := br ((241 : Int32) ≤ x4) (ml (run (sX8_times_85 x2 x3 g_now g_first) (((1 : Int32), g_sums, g_other)))) (br ((41 : Int32) ≤ x4) (bX8_times_74 x1 x2 x3 x4 x4 g_now g_first g_sums g_other) (gd (¬ (((41 : Int32) * x1) + x4) < 0 ∧ (((41 : Int32) * x1) + x4).toNatClampNeg < 164) (br ((g_now (((41 : Int32) * x1) + x4).toNatClampNeg) = 0) (bX8_times_74 x1 x2 x3 x4 x4 g_now g_first g_sums g_other) (bX8_times_75 x1 x2 x3 x4 x4 (1 : Int32) g_now g_first g_sums g_other))))
noncomputable def sX8_times_34 (x1 : Int32) (x2 : Int32) (x3 : Int32) (g_now : Nat → Int32) (g_first : Nat → Int32) (g_other : Nat → Int32) : (Int32 × (Nat → Int32)) → Option ((Int32 × (Nat → Int32)) ⊕ (Int32 × (Nat → Int32) × (Nat → Int32) × (Nat → Int32))) := fun q => bX8_times_34 x1 x2 x3 g_now g_first g_other q.1 q.2
noncomputable def fX8_times (q1 : Int32) (q2 : Int32) (g_now : Nat → Int32) (g_first : Nat → Int32) (g_sums : Nat → Int32) (g_other : Nat → Int32) : Option (Int32 × (Nat → Int32) × (Nat → Int32) × (Nat → Int32)) := bd (fX8_isSlot q1) (fun u32 => br (u32 = 0) (some (((-1 : Int32), g_first, g_sums, g_other))) (bd (fX8_in q2.toInt64 (1 : Int64) (6 : Int64)) (fun u34 => br (u34 = 0) (some (((-1 : Int32), g_first, g_sums, g_other))) (bd (fX8_lists q1 41 g_now g_first) (fun u36 => run (sX8_times_34 q1 q2 u36.1 g_now u36.2 g_other) (((0 : Int32), g_sums)))))))
set_option maxHeartbeats 4000000 in
set_option maxRecDepth 100000 in
theorem cX8_times_ct (l : Launch) (D : va_G) (cI cL cC cZ : ClassId) (a_this a_text a_now a_before a_read a_first a_second a_sums a_other a_grid a_order : Nat) (g_length : Int32) (g_undoMany : Int32) (g_spot : Int32) (g_step : Int32) (g_coverMany : Int32) (g_leastSums : Int32) (g_leastPart : Int32) (g_now : Nat → Int32) (g_first : Nat → Int32) (g_sums : Nat → Int32) (g_other : Nat → Int32) (q1 : Int32) (q2 : Int32) (r0 : Int32) (v_first : Nat → Int32) (v_sums : Nat → Int32) (v_other : Nat → Int32) (hf : fX8_times q1 q2 g_now g_first g_sums g_other = some ((r0, v_first, v_sums, v_other))) : CtI l yX8_times wsX8_times rmX8_times D (tyz cI cL cC cZ) [.ref a_this, .int q1, .int q2] [(a_this, .inr (8, [.int g_length, .ref a_text, .ref a_now, .ref a_before, .int g_undoMany, .ref a_read, .int g_spot, .ref a_first, .ref a_second, .ref a_sums, .ref a_other, .int g_step, .int g_coverMany, .ref a_grid, .ref a_order, .int g_leastSums, .int g_leastPart])), (a_now, .inl (cZ, 164, .inl g_now)), (a_first, .inl (cI, 41, .inl g_first)), (a_sums, .inl (cZ, 241, .inl g_sums)), (a_other, .inl (cZ, 241, .inl g_other))] [(a_this, .inr (8, [.int g_length, .ref a_text, .ref a_now, .ref a_before, .int g_undoMany, .ref a_read, .int g_spot, .ref a_first, .ref a_second, .ref a_sums, .ref a_other, .int g_step, .int g_coverMany, .ref a_grid, .ref a_order, .int g_leastSums, .int g_leastPart])), (a_now, .inl (cZ, 164, .inl g_now)), (a_first, .inl (cI, 41, .inl v_first)), (a_sums, .inl (cZ, 241, .inl v_sums)), (a_other, .inl (cZ, 241, .inl v_other))] r0 := by
  refine CtI.make (cc := cX8_times) (maxL := 7) (ty := .int) (by decide) rfl (Nat.le_of_ble_eq_true rfl) ?_
  intro p e s m below meth c A ls C0 hN hA hP hD hl
  obtain ⟨hx, hb, hr, hml, hown, hts, hlk⟩ := id C0
  have hown : s.vm.findClass RX8 = some m.cls := hown
  have hS : va_S A s.heap s.heap [] := va_S.rf
  have hP : va_P D vwCl [(a_this, .inr (8, [.int g_length, .ref a_text, .ref a_now, .ref a_before, .int g_undoMany, .ref a_read, .int g_spot, .ref a_first, .ref a_second, .ref a_sums, .ref a_other, .int g_step, .int g_coverMany, .ref a_grid, .ref a_order, .int g_leastSums, .int g_leastPart])), (a_now, .inl (cZ, 164, .inl g_now)), (a_first, .inl (cI, 41, .inl g_first)), (a_sums, .inl (cZ, 241, .inl g_sums)), (a_other, .inl (cZ, 241, .inl g_other))] s.heap := hP
  have hD : va_D A [(a_this, .inr (8, [.int g_length, .ref a_text, .ref a_now, .ref a_before, .int g_undoMany, .ref a_read, .int g_spot, .ref a_first, .ref a_second, .ref a_sums, .ref a_other, .int g_step, .int g_coverMany, .ref a_grid, .ref a_order, .int g_leastSums, .int g_leastPart])), (a_now, .inl (cZ, 164, .inl g_now)), (a_first, .inl (cI, 41, .inl g_first)), (a_sums, .inl (cZ, 241, .inl g_sums)), (a_other, .inl (cZ, 241, .inl g_other))] := hD
  have hl : lv_has ls 7 [(0, .ref a_this), (1, .int q1), (2, .int q2)] := hl
  have z1 : ∀ w ∈ u_ws RX8 TX8 17, w ∈ wsX8_times := by decide +kernel
  have z2 := hts (.fieldLink RX8 32 "LittleSumsModel" "other" "[Z") (by decide +kernel)
  have z3 := hts (.fieldLink RX8 29 "LittleSumsModel" "sums" "[Z") (by decide +kernel)
  have z4 := hts (.fieldLink RX8 23 "LittleSumsModel" "first" "[I") (by decide +kernel)
  have z5 := cwV (R := rmX8_times) (rm := rmX8_ones) (mc := 0) (ms := 0) 1 hts gX8_times_X8_ones rfl rfl rfl (by decide +kernel) ⟨Nat.le_of_ble_eq_true rfl, Nat.le_of_ble_eq_true rfl⟩
  have z6 := hts (.fieldLink RX8 13 "LittleSumsModel" "now" "[Z") (by decide +kernel)
  have z7 := va_cwS (R := rmX8_times) (rm := rmX8_isSlot) (mc := 0) (ms := 0) 1 hts gX8_times_X8_isSlot rfl rfl rfl (by decide +kernel) ⟨Nat.le_of_ble_eq_true rfl, Nat.le_of_ble_eq_true rfl⟩
  have z8 := hts (.constantLong RX8 121 (6)) (by decide +kernel)
  have z9 := va_cwS (R := rmX8_times) (rm := rmX8_in) (mc := 0) (ms := 0) 3 hts gX8_times_X8_in rfl rfl rfl (by decide +kernel) ⟨Nat.le_of_ble_eq_true rfl, Nat.le_of_ble_eq_true rfl⟩
  have z10 := cwV (R := rmX8_times) (rm := rmX8_lists) (mc := 0) (ms := 0) 2 hts gX8_times_X8_lists rfl rfl rfl (by decide +kernel) ⟨Nat.le_of_ble_eq_true rfl, Nat.le_of_ble_eq_true rfl⟩
  have w85 : ∀ (x2 : Int32) (x3 : Int32) (g_now : Nat → Int32) (g_first : Nat → Int32) (x4 : Int32) (g_sums : Nat → Int32) (g_other : Nat → Int32) (t : Int32 × (Nat → Int32) × (Nat → Int32) × (Nat → Int32)) (H : Heap) (locs : List Loc) (ls : Array Slot), run (sX8_times_85 x2 x3 g_now g_first) ((x4, g_sums, g_other)) = some t → (fun z => z = (r0, v_first, v_sums, v_other)) t → va_P D vwCl [(a_this, .inr (8, [.int g_length, .ref a_text, .ref a_now, .ref a_before, .int g_undoMany, .ref a_read, .int g_spot, .ref a_first, .ref a_second, .ref a_sums, .ref a_other, .int g_step, .int g_coverMany, .ref a_grid, .ref a_order, .int g_leastSums, .int g_leastPart])), (a_now, .inl (cZ, 164, .inl g_now)), (a_first, .inl (cI, 41, .inl g_first)), (a_sums, .inl (cZ, 241, .inl g_sums)), (a_other, .inl (cZ, 241, .inl g_other))] H → va_D A [(a_this, .inr (8, [.int g_length, .ref a_text, .ref a_now, .ref a_before, .int g_undoMany, .ref a_read, .int g_spot, .ref a_first, .ref a_second, .ref a_sums, .ref a_other, .int g_step, .int g_coverMany, .ref a_grid, .ref a_order, .int g_leastSums, .int g_leastPart])), (a_now, .inl (cZ, 164, .inl g_now)), (a_first, .inl (cI, 41, .inl g_first)), (a_sums, .inl (cZ, 241, .inl g_sums)), (a_other, .inl (cZ, 241, .inl g_other))] → va_S A s.heap H locs → lv_has ls 7 [(0, .ref a_this), (2, .int x2), (3, .int x3), (4, .int x4)] → W p l e rmX8_times s m ([.ref a_this, .int q1, .int q2] : List Value).toArray below meth c H locs 0 0 (MQ below (cQi D r0 A [(a_this, .inr (8, [.int g_length, .ref a_text, .ref a_now, .ref a_before, .int g_undoMany, .ref a_read, .int g_spot, .ref a_first, .ref a_second, .ref a_sums, .ref a_other, .int g_step, .int g_coverMany, .ref a_grid, .ref a_order, .int g_leastSums, .int g_leastPart])), (a_now, .inl (cZ, 164, .inl g_now)), (a_first, .inl (cI, 41, .inl v_first)), (a_sums, .inl (cZ, 241, .inl v_sums)), (a_other, .inl (cZ, 241, .inl v_other))]) ([.ref a_this, .int q1, .int q2] : List Value).toArray s 0 0 A) (F0 m 85 ls []) := by
    intro x2 x3 g_now g_first
    obtain ⟨F85, eF85⟩ : ∃ F : (Int32 × (Nat → Int32) × (Nat → Int32)) → Prop, F = fun q => ∀ (H : Heap) (locs : List Loc) (ls : Array Slot), va_P D vwCl [(a_this, .inr (8, [.int g_length, .ref a_text, .ref a_now, .ref a_before, .int g_undoMany, .ref a_read, .int g_spot, .ref a_first, .ref a_second, .ref a_sums, .ref a_other, .int g_step, .int g_coverMany, .ref a_grid, .ref a_order, .int g_leastSums, .int g_leastPart])), (a_now, .inl (cZ, 164, .inl g_now)), (a_first, .inl (cI, 41, .inl g_first)), (a_sums, .inl (cZ, 241, .inl q.2.1)), (a_other, .inl (cZ, 241, .inl q.2.2))] H → va_D A [(a_this, .inr (8, [.int g_length, .ref a_text, .ref a_now, .ref a_before, .int g_undoMany, .ref a_read, .int g_spot, .ref a_first, .ref a_second, .ref a_sums, .ref a_other, .int g_step, .int g_coverMany, .ref a_grid, .ref a_order, .int g_leastSums, .int g_leastPart])), (a_now, .inl (cZ, 164, .inl g_now)), (a_first, .inl (cI, 41, .inl g_first)), (a_sums, .inl (cZ, 241, .inl q.2.1)), (a_other, .inl (cZ, 241, .inl q.2.2))] → va_S A s.heap H locs → lv_has ls 7 [(0, .ref a_this), (2, .int x2), (3, .int x3), (4, .int q.1)] → W p l e rmX8_times s m ([.ref a_this, .int q1, .int q2] : List Value).toArray below meth c H locs 0 0 (MQ below (cQi D r0 A [(a_this, .inr (8, [.int g_length, .ref a_text, .ref a_now, .ref a_before, .int g_undoMany, .ref a_read, .int g_spot, .ref a_first, .ref a_second, .ref a_sums, .ref a_other, .int g_step, .int g_coverMany, .ref a_grid, .ref a_order, .int g_leastSums, .int g_leastPart])), (a_now, .inl (cZ, 164, .inl g_now)), (a_first, .inl (cI, 41, .inl v_first)), (a_sums, .inl (cZ, 241, .inl v_sums)), (a_other, .inl (cZ, 241, .inl v_other))]) ([.ref a_this, .int q1, .int q2] : List Value).toArray s 0 0 A) (F0 m 85 ls []) := ⟨_, rfl⟩
    have key : ∀ (q : Int32 × (Nat → Int32) × (Nat → Int32)) (t : Int32 × (Nat → Int32) × (Nat → Int32) × (Nat → Int32)), run (sX8_times_85 x2 x3 g_now g_first) q = some t → (fun z => z = (r0, v_first, v_sums, v_other)) t → F85 q := by
      refine loop_rule (sX8_times_85 x2 x3 g_now g_first) F85 (fun z => z = (r0, v_first, v_sums, v_other)) ?_
      intro q t hf hF
      have hF : (Sum.elim F85 (fun z => z = (r0, v_first, v_sums, v_other))) t := hF
      have w133 : ∀ (x4 : Int32) (g_other : Nat → Int32) (x5 : Int32) (g_sums : Nat → Int32) (t : (Int32 × (Nat → Int32) × (Nat → Int32)) ⊕ (Int32 × (Nat → Int32) × (Nat → Int32) × (Nat → Int32))) (H : Heap) (locs : List Loc) (ls : Array Slot), run (sX8_times_133 x2 x3 x4 g_now g_first g_other) ((x5, g_sums)) = some t → (Sum.elim F85 (fun z => z = (r0, v_first, v_sums, v_other))) t → va_P D vwCl [(a_this, .inr (8, [.int g_length, .ref a_text, .ref a_now, .ref a_before, .int g_undoMany, .ref a_read, .int g_spot, .ref a_first, .ref a_second, .ref a_sums, .ref a_other, .int g_step, .int g_coverMany, .ref a_grid, .ref a_order, .int g_leastSums, .int g_leastPart])), (a_now, .inl (cZ, 164, .inl g_now)), (a_first, .inl (cI, 41, .inl g_first)), (a_sums, .inl (cZ, 241, .inl g_sums)), (a_other, .inl (cZ, 241, .inl g_other))] H → va_D A [(a_this, .inr (8, [.int g_length, .ref a_text, .ref a_now, .ref a_before, .int g_undoMany, .ref a_read, .int g_spot, .ref a_first, .ref a_second, .ref a_sums, .ref a_other, .int g_step, .int g_coverMany, .ref a_grid, .ref a_order, .int g_leastSums, .int g_leastPart])), (a_now, .inl (cZ, 164, .inl g_now)), (a_first, .inl (cI, 41, .inl g_first)), (a_sums, .inl (cZ, 241, .inl g_sums)), (a_other, .inl (cZ, 241, .inl g_other))] → va_S A s.heap H locs → lv_has ls 7 [(0, .ref a_this), (2, .int x2), (3, .int x3), (4, .int x4), (5, .int x5)] → W p l e rmX8_times s m ([.ref a_this, .int q1, .int q2] : List Value).toArray below meth c H locs 0 0 (MQ below (cQi D r0 A [(a_this, .inr (8, [.int g_length, .ref a_text, .ref a_now, .ref a_before, .int g_undoMany, .ref a_read, .int g_spot, .ref a_first, .ref a_second, .ref a_sums, .ref a_other, .int g_step, .int g_coverMany, .ref a_grid, .ref a_order, .int g_leastSums, .int g_leastPart])), (a_now, .inl (cZ, 164, .inl g_now)), (a_first, .inl (cI, 41, .inl v_first)), (a_sums, .inl (cZ, 241, .inl v_sums)), (a_other, .inl (cZ, 241, .inl v_other))]) ([.ref a_this, .int q1, .int q2] : List Value).toArray s 0 0 A) (F0 m 133 ls []) := by
        intro x4 g_other
        obtain ⟨F133, eF133⟩ : ∃ F : (Int32 × (Nat → Int32)) → Prop, F = fun q => ∀ (H : Heap) (locs : List Loc) (ls : Array Slot), va_P D vwCl [(a_this, .inr (8, [.int g_length, .ref a_text, .ref a_now, .ref a_before, .int g_undoMany, .ref a_read, .int g_spot, .ref a_first, .ref a_second, .ref a_sums, .ref a_other, .int g_step, .int g_coverMany, .ref a_grid, .ref a_order, .int g_leastSums, .int g_leastPart])), (a_now, .inl (cZ, 164, .inl g_now)), (a_first, .inl (cI, 41, .inl g_first)), (a_sums, .inl (cZ, 241, .inl q.2)), (a_other, .inl (cZ, 241, .inl g_other))] H → va_D A [(a_this, .inr (8, [.int g_length, .ref a_text, .ref a_now, .ref a_before, .int g_undoMany, .ref a_read, .int g_spot, .ref a_first, .ref a_second, .ref a_sums, .ref a_other, .int g_step, .int g_coverMany, .ref a_grid, .ref a_order, .int g_leastSums, .int g_leastPart])), (a_now, .inl (cZ, 164, .inl g_now)), (a_first, .inl (cI, 41, .inl g_first)), (a_sums, .inl (cZ, 241, .inl q.2)), (a_other, .inl (cZ, 241, .inl g_other))] → va_S A s.heap H locs → lv_has ls 7 [(0, .ref a_this), (2, .int x2), (3, .int x3), (4, .int x4), (5, .int q.1)] → W p l e rmX8_times s m ([.ref a_this, .int q1, .int q2] : List Value).toArray below meth c H locs 0 0 (MQ below (cQi D r0 A [(a_this, .inr (8, [.int g_length, .ref a_text, .ref a_now, .ref a_before, .int g_undoMany, .ref a_read, .int g_spot, .ref a_first, .ref a_second, .ref a_sums, .ref a_other, .int g_step, .int g_coverMany, .ref a_grid, .ref a_order, .int g_leastSums, .int g_leastPart])), (a_now, .inl (cZ, 164, .inl g_now)), (a_first, .inl (cI, 41, .inl v_first)), (a_sums, .inl (cZ, 241, .inl v_sums)), (a_other, .inl (cZ, 241, .inl v_other))]) ([.ref a_this, .int q1, .int q2] : List Value).toArray s 0 0 A) (F0 m 133 ls []) := ⟨_, rfl⟩
        have key : ∀ (q : Int32 × (Nat → Int32)) (t : (Int32 × (Nat → Int32) × (Nat → Int32)) ⊕ (Int32 × (Nat → Int32) × (Nat → Int32) × (Nat → Int32))), run (sX8_times_133 x2 x3 x4 g_now g_first g_other) q = some t → (Sum.elim F85 (fun z => z = (r0, v_first, v_sums, v_other))) t → F133 q := by
          refine loop_rule (sX8_times_133 x2 x3 x4 g_now g_first g_other) F133 (Sum.elim F85 (fun z => z = (r0, v_first, v_sums, v_other))) ?_
          intro q t hf hF
          have hF : (Sum.elim F133 (Sum.elim F85 (fun z => z = (r0, v_first, v_sums, v_other)))) t := hF
          have w182 : ∀ (x5 : Int32) (g_sums : Nat → Int32) (t : (Int32 × (Nat → Int32)) ⊕ ((Int32 × (Nat → Int32) × (Nat → Int32)) ⊕ (Int32 × (Nat → Int32) × (Nat → Int32) × (Nat → Int32)))) (H : Heap) (locs : List Loc) (ls : Array Slot), bX8_times_182 x2 x3 x4 x5 g_now g_first g_sums g_other = some t → (Sum.elim F133 (Sum.elim F85 (fun z => z = (r0, v_first, v_sums, v_other)))) t → va_P D vwCl [(a_this, .inr (8, [.int g_length, .ref a_text, .ref a_now, .ref a_before, .int g_undoMany, .ref a_read, .int g_spot, .ref a_first, .ref a_second, .ref a_sums, .ref a_other, .int g_step, .int g_coverMany, .ref a_grid, .ref a_order, .int g_leastSums, .int g_leastPart])), (a_now, .inl (cZ, 164, .inl g_now)), (a_first, .inl (cI, 41, .inl g_first)), (a_sums, .inl (cZ, 241, .inl g_sums)), (a_other, .inl (cZ, 241, .inl g_other))] H → va_D A [(a_this, .inr (8, [.int g_length, .ref a_text, .ref a_now, .ref a_before, .int g_undoMany, .ref a_read, .int g_spot, .ref a_first, .ref a_second, .ref a_sums, .ref a_other, .int g_step, .int g_coverMany, .ref a_grid, .ref a_order, .int g_leastSums, .int g_leastPart])), (a_now, .inl (cZ, 164, .inl g_now)), (a_first, .inl (cI, 41, .inl g_first)), (a_sums, .inl (cZ, 241, .inl g_sums)), (a_other, .inl (cZ, 241, .inl g_other))] → va_S A s.heap H locs → lv_has ls 7 [(0, .ref a_this), (2, .int x2), (3, .int x3), (4, .int x4), (5, .int x5)] → W p l e rmX8_times s m ([.ref a_this, .int q1, .int q2] : List Value).toArray below meth c H locs 0 0 (MQ below (cQi D r0 A [(a_this, .inr (8, [.int g_length, .ref a_text, .ref a_now, .ref a_before, .int g_undoMany, .ref a_read, .int g_spot, .ref a_first, .ref a_second, .ref a_sums, .ref a_other, .int g_step, .int g_coverMany, .ref a_grid, .ref a_order, .int g_leastSums, .int g_leastPart])), (a_now, .inl (cZ, 164, .inl g_now)), (a_first, .inl (cI, 41, .inl v_first)), (a_sums, .inl (cZ, 241, .inl v_sums)), (a_other, .inl (cZ, 241, .inl v_other))]) ([.ref a_this, .int q1, .int q2] : List Value).toArray s 0 0 A) (F0 m 182 ls []) := by
            intro x5 g_sums t H locs ls hf hF hP hD hS hl
            unfold bX8_times_182 at hf
            obtain ⟨y1, ey1⟩ : ∃ z : Int32, z = x5 + (1 : Int32) := ⟨_, rfl⟩
            have hf := lt_some hf y1 ey1
            refine lv_iinc (v := y1) (lv' := [(5, .int y1), (0, .ref a_this), (2, .int x2), (3, .int x3), (4, .int x4)]) hx hb dX8_times_182 hl (k := 4) rfl (by rw [ey1]; rfl) (by decide) rfl (fun ls hl => ?_)
            refine lv_goto (tgt := 133) hx hb dX8_times_185 (by decide) ?_
            cases hf
            exact ((congrFun eF133 _).mp hF) H locs ls hP hD hS (lv_sub hl [1, 2, 3, 4, 0] rfl)
          have w144 : ∀ (x5 : Int32) (x6 : Int32) (g_sums : Nat → Int32) (t : (Int32 × (Nat → Int32)) ⊕ ((Int32 × (Nat → Int32) × (Nat → Int32)) ⊕ (Int32 × (Nat → Int32) × (Nat → Int32) × (Nat → Int32)))) (H : Heap) (locs : List Loc) (ls : Array Slot), run (sX8_times_144 x2 x3 x4 x5 g_now g_first g_other) ((x6, g_sums)) = some t → (Sum.elim F133 (Sum.elim F85 (fun z => z = (r0, v_first, v_sums, v_other)))) t → va_P D vwCl [(a_this, .inr (8, [.int g_length, .ref a_text, .ref a_now, .ref a_before, .int g_undoMany, .ref a_read, .int g_spot, .ref a_first, .ref a_second, .ref a_sums, .ref a_other, .int g_step, .int g_coverMany, .ref a_grid, .ref a_order, .int g_leastSums, .int g_leastPart])), (a_now, .inl (cZ, 164, .inl g_now)), (a_first, .inl (cI, 41, .inl g_first)), (a_sums, .inl (cZ, 241, .inl g_sums)), (a_other, .inl (cZ, 241, .inl g_other))] H → va_D A [(a_this, .inr (8, [.int g_length, .ref a_text, .ref a_now, .ref a_before, .int g_undoMany, .ref a_read, .int g_spot, .ref a_first, .ref a_second, .ref a_sums, .ref a_other, .int g_step, .int g_coverMany, .ref a_grid, .ref a_order, .int g_leastSums, .int g_leastPart])), (a_now, .inl (cZ, 164, .inl g_now)), (a_first, .inl (cI, 41, .inl g_first)), (a_sums, .inl (cZ, 241, .inl g_sums)), (a_other, .inl (cZ, 241, .inl g_other))] → va_S A s.heap H locs → lv_has ls 7 [(0, .ref a_this), (2, .int x2), (3, .int x3), (4, .int x4), (5, .int x5), (6, .int x6)] → W p l e rmX8_times s m ([.ref a_this, .int q1, .int q2] : List Value).toArray below meth c H locs 0 0 (MQ below (cQi D r0 A [(a_this, .inr (8, [.int g_length, .ref a_text, .ref a_now, .ref a_before, .int g_undoMany, .ref a_read, .int g_spot, .ref a_first, .ref a_second, .ref a_sums, .ref a_other, .int g_step, .int g_coverMany, .ref a_grid, .ref a_order, .int g_leastSums, .int g_leastPart])), (a_now, .inl (cZ, 164, .inl g_now)), (a_first, .inl (cI, 41, .inl v_first)), (a_sums, .inl (cZ, 241, .inl v_sums)), (a_other, .inl (cZ, 241, .inl v_other))]) ([.ref a_this, .int q1, .int q2] : List Value).toArray s 0 0 A) (F0 m 144 ls []) := by
            intro x5
            obtain ⟨F144, eF144⟩ : ∃ F : (Int32 × (Nat → Int32)) → Prop, F = fun q => ∀ (H : Heap) (locs : List Loc) (ls : Array Slot), va_P D vwCl [(a_this, .inr (8, [.int g_length, .ref a_text, .ref a_now, .ref a_before, .int g_undoMany, .ref a_read, .int g_spot, .ref a_first, .ref a_second, .ref a_sums, .ref a_other, .int g_step, .int g_coverMany, .ref a_grid, .ref a_order, .int g_leastSums, .int g_leastPart])), (a_now, .inl (cZ, 164, .inl g_now)), (a_first, .inl (cI, 41, .inl g_first)), (a_sums, .inl (cZ, 241, .inl q.2)), (a_other, .inl (cZ, 241, .inl g_other))] H → va_D A [(a_this, .inr (8, [.int g_length, .ref a_text, .ref a_now, .ref a_before, .int g_undoMany, .ref a_read, .int g_spot, .ref a_first, .ref a_second, .ref a_sums, .ref a_other, .int g_step, .int g_coverMany, .ref a_grid, .ref a_order, .int g_leastSums, .int g_leastPart])), (a_now, .inl (cZ, 164, .inl g_now)), (a_first, .inl (cI, 41, .inl g_first)), (a_sums, .inl (cZ, 241, .inl q.2)), (a_other, .inl (cZ, 241, .inl g_other))] → va_S A s.heap H locs → lv_has ls 7 [(0, .ref a_this), (2, .int x2), (3, .int x3), (4, .int x4), (5, .int x5), (6, .int q.1)] → W p l e rmX8_times s m ([.ref a_this, .int q1, .int q2] : List Value).toArray below meth c H locs 0 0 (MQ below (cQi D r0 A [(a_this, .inr (8, [.int g_length, .ref a_text, .ref a_now, .ref a_before, .int g_undoMany, .ref a_read, .int g_spot, .ref a_first, .ref a_second, .ref a_sums, .ref a_other, .int g_step, .int g_coverMany, .ref a_grid, .ref a_order, .int g_leastSums, .int g_leastPart])), (a_now, .inl (cZ, 164, .inl g_now)), (a_first, .inl (cI, 41, .inl v_first)), (a_sums, .inl (cZ, 241, .inl v_sums)), (a_other, .inl (cZ, 241, .inl v_other))]) ([.ref a_this, .int q1, .int q2] : List Value).toArray s 0 0 A) (F0 m 144 ls []) := ⟨_, rfl⟩
            have key : ∀ (q : Int32 × (Nat → Int32)) (t : (Int32 × (Nat → Int32)) ⊕ ((Int32 × (Nat → Int32) × (Nat → Int32)) ⊕ (Int32 × (Nat → Int32) × (Nat → Int32) × (Nat → Int32)))), run (sX8_times_144 x2 x3 x4 x5 g_now g_first g_other) q = some t → (Sum.elim F133 (Sum.elim F85 (fun z => z = (r0, v_first, v_sums, v_other)))) t → F144 q := by
              refine loop_rule (sX8_times_144 x2 x3 x4 x5 g_now g_first g_other) F144 (Sum.elim F133 (Sum.elim F85 (fun z => z = (r0, v_first, v_sums, v_other)))) ?_
              intro q t hf hF
              have hF : (Sum.elim F144 (Sum.elim F133 (Sum.elim F85 (fun z => z = (r0, v_first, v_sums, v_other))))) t := hF
              rw [eF144]
              obtain ⟨x6, g_sums⟩ := q
              intro H locs ls hP hD hS hl
              have hP : va_P D vwCl [(a_this, .inr (8, [.int g_length, .ref a_text, .ref a_now, .ref a_before, .int g_undoMany, .ref a_read, .int g_spot, .ref a_first, .ref a_second, .ref a_sums, .ref a_other, .int g_step, .int g_coverMany, .ref a_grid, .ref a_order, .int g_leastSums, .int g_leastPart])), (a_now, .inl (cZ, 164, .inl g_now)), (a_first, .inl (cI, 41, .inl g_first)), (a_sums, .inl (cZ, 241, .inl g_sums)), (a_other, .inl (cZ, 241, .inl g_other))] H := hP
              have hD : va_D A [(a_this, .inr (8, [.int g_length, .ref a_text, .ref a_now, .ref a_before, .int g_undoMany, .ref a_read, .int g_spot, .ref a_first, .ref a_second, .ref a_sums, .ref a_other, .int g_step, .int g_coverMany, .ref a_grid, .ref a_order, .int g_leastSums, .int g_leastPart])), (a_now, .inl (cZ, 164, .inl g_now)), (a_first, .inl (cI, 41, .inl g_first)), (a_sums, .inl (cZ, 241, .inl g_sums)), (a_other, .inl (cZ, 241, .inl g_other))] := hD
              have hl : lv_has ls 7 [(0, .ref a_this), (2, .int x2), (3, .int x3), (4, .int x4), (5, .int x5), (6, .int x6)] := hl
              have hf : bX8_times_144 x2 x3 x4 x5 g_now g_first g_other x6 g_sums = some t := hf
              unfold bX8_times_144 at hf
              refine lv_iload hx hb dX8_times_144 (lv_at hl 5 rfl) ?_
              refine lv_iload_n hx hb dX8_times_146 rfl (lv_at hl 2 rfl) ?_
              refine lv_icmp_ge (tgt := 182) hx hb dX8_times_147 (by decide) (fun c2 => ?_) (fun c2 => ?_)
              · have hf := br_pos c2 hf
                obtain ⟨t3, hf, hF⟩ := ml_fin hf hF
                exact w182 x5 g_sums _ H locs ls hf hF hP hD hS (lv_sub hl [0, 1, 2, 3, 4] rfl)
              · have hf := br_neg c2 hf
                refine lv_aload_n hx hb dX8_times_150 rfl (lv_at hl 0 rfl) ?_
                refine va_get (D := D) (ci := 8) (v := .ref a_other) (C := RX8) (T := TX8) (N := 17) hx hb hts z1 hown hN.1 hP 0 rfl rfl 10 (by decide) z2 (fun _ h9 => h9) rfl dX8_times_151 ?_
                refine lv_iload hx hb dX8_times_154 (lv_at hl 4 rfl) ?_
                obtain ⟨c4, hf⟩ := gd_some hf
                refine va_zald hx hb hN.1 hP 4 3 rfl rfl (ix_in c4) dX8_times_156 ?_
                refine lv_if_eq (tgt := 182) hx hb dX8_times_157 (by decide) (fun c5 => ?_) (fun c5 => ?_)
                · have hf := br_pos c5 hf
                  obtain ⟨t6, hf, hF⟩ := ml_fin hf hF
                  exact w182 x5 g_sums _ H locs ls hf hF hP hD hS (lv_sub hl [0, 1, 2, 3, 4] rfl)
                · have hf := br_neg c5 hf
                  refine lv_aload_n hx hb dX8_times_160 rfl (lv_at hl 0 rfl) ?_
                  refine va_get (D := D) (ci := 8) (v := .ref a_sums) (C := RX8) (T := TX8) (N := 17) hx hb hts z1 hown hN.1 hP 0 rfl rfl 9 (by decide) z3 (fun _ h9 => h9) rfl dX8_times_161 ?_
                  refine lv_iload hx hb dX8_times_164 (lv_at hl 4 rfl) ?_
                  refine lv_aload_n hx hb dX8_times_166 rfl (lv_at hl 0 rfl) ?_
                  refine va_get (D := D) (ci := 8) (v := .ref a_first) (C := RX8) (T := TX8) (N := 17) hx hb hts z1 hown hN.1 hP 0 rfl rfl 7 (by decide) z4 (fun _ h9 => h9) rfl dX8_times_167 ?_
                  refine lv_iload hx hb dX8_times_170 (lv_at hl 5 rfl) ?_
                  obtain ⟨c7, hf⟩ := gd_some hf
                  refine va_iald hx hb hN.1 hP 2 0 rfl rfl (ix_in c7) dX8_times_172 ?_
                  refine lv_iadd hx hb dX8_times_173 ?_
                  refine lv_iconst (v := 1) hx hb dX8_times_174 (by decide) ?_
                  obtain ⟨c8, hf⟩ := gd_some hf
                  refine va_zast hx hb hN.1 hP hD hS 3 3 rfl rfl (ix_in c8) dX8_times_175 (fun H locs hP hD hS => ?_)
                  obtain ⟨y9, ey9⟩ : ∃ z, z = upd g_sums (x5 + (g_first x6.toNatClampNeg)).toNatClampNeg (vp_nar .boolean (1 : Int32)) := ⟨_, rfl⟩
                  have hf := lt_some hf y9 ey9
                  have hP : va_P D vwCl [(a_this, .inr (8, [.int g_length, .ref a_text, .ref a_now, .ref a_before, .int g_undoMany, .ref a_read, .int g_spot, .ref a_first, .ref a_second, .ref a_sums, .ref a_other, .int g_step, .int g_coverMany, .ref a_grid, .ref a_order, .int g_leastSums, .int g_leastPart])), (a_now, .inl (cZ, 164, .inl g_now)), (a_first, .inl (cI, 41, .inl g_first)), (a_sums, .inl (cZ, 241, .inl y9)), (a_other, .inl (cZ, 241, .inl g_other))] H := by rw [ey9]; exact hP
                  have hD : va_D A [(a_this, .inr (8, [.int g_length, .ref a_text, .ref a_now, .ref a_before, .int g_undoMany, .ref a_read, .int g_spot, .ref a_first, .ref a_second, .ref a_sums, .ref a_other, .int g_step, .int g_coverMany, .ref a_grid, .ref a_order, .int g_leastSums, .int g_leastPart])), (a_now, .inl (cZ, 164, .inl g_now)), (a_first, .inl (cI, 41, .inl g_first)), (a_sums, .inl (cZ, 241, .inl y9)), (a_other, .inl (cZ, 241, .inl g_other))] := by rw [ey9]; exact hD
                  obtain ⟨y10, ey10⟩ : ∃ z : Int32, z = x6 + (1 : Int32) := ⟨_, rfl⟩
                  have hf := lt_some hf y10 ey10
                  refine lv_iinc (v := y10) (lv' := [(6, .int y10), (0, .ref a_this), (2, .int x2), (3, .int x3), (4, .int x4), (5, .int x5)]) hx hb dX8_times_176 hl (k := 5) rfl (by rw [ey10]; rfl) (by decide) rfl (fun ls hl => ?_)
                  refine lv_goto (tgt := 144) hx hb dX8_times_179 (by decide) ?_
                  cases hf
                  exact ((congrFun eF144 _).mp hF) H locs ls hP hD hS (lv_sub hl [1, 2, 3, 4, 5, 0] rfl)
            intro x6 g_sums t H locs ls hf hF hP hD hS hl
            exact ((congrFun eF144 _).mp (key ((x6, g_sums)) t hf hF)) H locs ls hP hD hS hl
          rw [eF133]
          obtain ⟨x5, g_sums⟩ := q
          intro H locs ls hP hD hS hl
          have hP : va_P D vwCl [(a_this, .inr (8, [.int g_length, .ref a_text, .ref a_now, .ref a_before, .int g_undoMany, .ref a_read, .int g_spot, .ref a_first, .ref a_second, .ref a_sums, .ref a_other, .int g_step, .int g_coverMany, .ref a_grid, .ref a_order, .int g_leastSums, .int g_leastPart])), (a_now, .inl (cZ, 164, .inl g_now)), (a_first, .inl (cI, 41, .inl g_first)), (a_sums, .inl (cZ, 241, .inl g_sums)), (a_other, .inl (cZ, 241, .inl g_other))] H := hP
          have hD : va_D A [(a_this, .inr (8, [.int g_length, .ref a_text, .ref a_now, .ref a_before, .int g_undoMany, .ref a_read, .int g_spot, .ref a_first, .ref a_second, .ref a_sums, .ref a_other, .int g_step, .int g_coverMany, .ref a_grid, .ref a_order, .int g_leastSums, .int g_leastPart])), (a_now, .inl (cZ, 164, .inl g_now)), (a_first, .inl (cI, 41, .inl g_first)), (a_sums, .inl (cZ, 241, .inl g_sums)), (a_other, .inl (cZ, 241, .inl g_other))] := hD
          have hl : lv_has ls 7 [(0, .ref a_this), (2, .int x2), (3, .int x3), (4, .int x4), (5, .int x5)] := hl
          have hf : bX8_times_133 x2 x3 x4 g_now g_first g_other x5 g_sums = some t := hf
          unfold bX8_times_133 at hf
          refine lv_iload hx hb dX8_times_133 (lv_at hl 4 rfl) ?_
          refine lv_sipush (v := 201) hx hb dX8_times_135 (by decide) ?_
          refine lv_icmp_ge (tgt := 188) hx hb dX8_times_138 (by decide) (fun c11 => ?_) (fun c11 => ?_)
          · have hf := br_pos c11 hf
            obtain ⟨y12, ey12⟩ : ∃ z : Int32, z = x4 + (1 : Int32) := ⟨_, rfl⟩
            have hf := lt_some hf y12 ey12
            refine lv_iinc (v := y12) (lv' := [(4, .int y12), (0, .ref a_this), (2, .int x2), (3, .int x3), (5, .int x5)]) hx hb dX8_times_188 hl (k := 3) rfl (by rw [ey12]; rfl) (by decide) rfl (fun ls hl => ?_)
            refine lv_goto (tgt := 85) hx hb dX8_times_191 (by decide) ?_
            cases hf
            exact ((congrFun eF85 _).mp hF) H locs ls hP hD hS (lv_sub hl [1, 2, 3, 0] rfl)
          · have hf := br_neg c11 hf
            refine lv_iconst (v := 0) hx hb dX8_times_141 (by decide) ?_
            refine lv_istore (lv' := [(6, .int (0 : Int32)), (0, .ref a_this), (2, .int x2), (3, .int x3), (4, .int x4), (5, .int x5)]) hx hb dX8_times_142 hl (by decide) rfl (fun ls hl => ?_)
            exact w144 x5 (0 : Int32) g_sums _ H locs ls hf hF hP hD hS (lv_sub hl [1, 2, 3, 4, 5, 0] rfl)
        intro x5 g_sums t H locs ls hf hF hP hD hS hl
        exact ((congrFun eF133 _).mp (key ((x5, g_sums)) t hf hF)) H locs ls hP hD hS hl
      have w94 : ∀ (x4 : Int32) (x5 : Int32) (g_sums : Nat → Int32) (g_other : Nat → Int32) (t : (Int32 × (Nat → Int32) × (Nat → Int32)) ⊕ (Int32 × (Nat → Int32) × (Nat → Int32) × (Nat → Int32))) (H : Heap) (locs : List Loc) (ls : Array Slot), run (sX8_times_94 x2 x3 x4 g_now g_first) ((x5, g_sums, g_other)) = some t → (Sum.elim F85 (fun z => z = (r0, v_first, v_sums, v_other))) t → va_P D vwCl [(a_this, .inr (8, [.int g_length, .ref a_text, .ref a_now, .ref a_before, .int g_undoMany, .ref a_read, .int g_spot, .ref a_first, .ref a_second, .ref a_sums, .ref a_other, .int g_step, .int g_coverMany, .ref a_grid, .ref a_order, .int g_leastSums, .int g_leastPart])), (a_now, .inl (cZ, 164, .inl g_now)), (a_first, .inl (cI, 41, .inl g_first)), (a_sums, .inl (cZ, 241, .inl g_sums)), (a_other, .inl (cZ, 241, .inl g_other))] H → va_D A [(a_this, .inr (8, [.int g_length, .ref a_text, .ref a_now, .ref a_before, .int g_undoMany, .ref a_read, .int g_spot, .ref a_first, .ref a_second, .ref a_sums, .ref a_other, .int g_step, .int g_coverMany, .ref a_grid, .ref a_order, .int g_leastSums, .int g_leastPart])), (a_now, .inl (cZ, 164, .inl g_now)), (a_first, .inl (cI, 41, .inl g_first)), (a_sums, .inl (cZ, 241, .inl g_sums)), (a_other, .inl (cZ, 241, .inl g_other))] → va_S A s.heap H locs → lv_has ls 7 [(0, .ref a_this), (2, .int x2), (3, .int x3), (4, .int x4), (5, .int x5)] → W p l e rmX8_times s m ([.ref a_this, .int q1, .int q2] : List Value).toArray below meth c H locs 0 0 (MQ below (cQi D r0 A [(a_this, .inr (8, [.int g_length, .ref a_text, .ref a_now, .ref a_before, .int g_undoMany, .ref a_read, .int g_spot, .ref a_first, .ref a_second, .ref a_sums, .ref a_other, .int g_step, .int g_coverMany, .ref a_grid, .ref a_order, .int g_leastSums, .int g_leastPart])), (a_now, .inl (cZ, 164, .inl g_now)), (a_first, .inl (cI, 41, .inl v_first)), (a_sums, .inl (cZ, 241, .inl v_sums)), (a_other, .inl (cZ, 241, .inl v_other))]) ([.ref a_this, .int q1, .int q2] : List Value).toArray s 0 0 A) (F0 m 94 ls []) := by
        intro x4
        obtain ⟨F94, eF94⟩ : ∃ F : (Int32 × (Nat → Int32) × (Nat → Int32)) → Prop, F = fun q => ∀ (H : Heap) (locs : List Loc) (ls : Array Slot), va_P D vwCl [(a_this, .inr (8, [.int g_length, .ref a_text, .ref a_now, .ref a_before, .int g_undoMany, .ref a_read, .int g_spot, .ref a_first, .ref a_second, .ref a_sums, .ref a_other, .int g_step, .int g_coverMany, .ref a_grid, .ref a_order, .int g_leastSums, .int g_leastPart])), (a_now, .inl (cZ, 164, .inl g_now)), (a_first, .inl (cI, 41, .inl g_first)), (a_sums, .inl (cZ, 241, .inl q.2.1)), (a_other, .inl (cZ, 241, .inl q.2.2))] H → va_D A [(a_this, .inr (8, [.int g_length, .ref a_text, .ref a_now, .ref a_before, .int g_undoMany, .ref a_read, .int g_spot, .ref a_first, .ref a_second, .ref a_sums, .ref a_other, .int g_step, .int g_coverMany, .ref a_grid, .ref a_order, .int g_leastSums, .int g_leastPart])), (a_now, .inl (cZ, 164, .inl g_now)), (a_first, .inl (cI, 41, .inl g_first)), (a_sums, .inl (cZ, 241, .inl q.2.1)), (a_other, .inl (cZ, 241, .inl q.2.2))] → va_S A s.heap H locs → lv_has ls 7 [(0, .ref a_this), (2, .int x2), (3, .int x3), (4, .int x4), (5, .int q.1)] → W p l e rmX8_times s m ([.ref a_this, .int q1, .int q2] : List Value).toArray below meth c H locs 0 0 (MQ below (cQi D r0 A [(a_this, .inr (8, [.int g_length, .ref a_text, .ref a_now, .ref a_before, .int g_undoMany, .ref a_read, .int g_spot, .ref a_first, .ref a_second, .ref a_sums, .ref a_other, .int g_step, .int g_coverMany, .ref a_grid, .ref a_order, .int g_leastSums, .int g_leastPart])), (a_now, .inl (cZ, 164, .inl g_now)), (a_first, .inl (cI, 41, .inl v_first)), (a_sums, .inl (cZ, 241, .inl v_sums)), (a_other, .inl (cZ, 241, .inl v_other))]) ([.ref a_this, .int q1, .int q2] : List Value).toArray s 0 0 A) (F0 m 94 ls []) := ⟨_, rfl⟩
        have key : ∀ (q : Int32 × (Nat → Int32) × (Nat → Int32)) (t : (Int32 × (Nat → Int32) × (Nat → Int32)) ⊕ (Int32 × (Nat → Int32) × (Nat → Int32) × (Nat → Int32))), run (sX8_times_94 x2 x3 x4 g_now g_first) q = some t → (Sum.elim F85 (fun z => z = (r0, v_first, v_sums, v_other))) t → F94 q := by
          refine loop_rule (sX8_times_94 x2 x3 x4 g_now g_first) F94 (Sum.elim F85 (fun z => z = (r0, v_first, v_sums, v_other))) ?_
          intro q t hf hF
          have hF : (Sum.elim F94 (Sum.elim F85 (fun z => z = (r0, v_first, v_sums, v_other)))) t := hF
          rw [eF94]
          obtain ⟨x5, g_sums, g_other⟩ := q
          intro H locs ls hP hD hS hl
          have hP : va_P D vwCl [(a_this, .inr (8, [.int g_length, .ref a_text, .ref a_now, .ref a_before, .int g_undoMany, .ref a_read, .int g_spot, .ref a_first, .ref a_second, .ref a_sums, .ref a_other, .int g_step, .int g_coverMany, .ref a_grid, .ref a_order, .int g_leastSums, .int g_leastPart])), (a_now, .inl (cZ, 164, .inl g_now)), (a_first, .inl (cI, 41, .inl g_first)), (a_sums, .inl (cZ, 241, .inl g_sums)), (a_other, .inl (cZ, 241, .inl g_other))] H := hP
          have hD : va_D A [(a_this, .inr (8, [.int g_length, .ref a_text, .ref a_now, .ref a_before, .int g_undoMany, .ref a_read, .int g_spot, .ref a_first, .ref a_second, .ref a_sums, .ref a_other, .int g_step, .int g_coverMany, .ref a_grid, .ref a_order, .int g_leastSums, .int g_leastPart])), (a_now, .inl (cZ, 164, .inl g_now)), (a_first, .inl (cI, 41, .inl g_first)), (a_sums, .inl (cZ, 241, .inl g_sums)), (a_other, .inl (cZ, 241, .inl g_other))] := hD
          have hl : lv_has ls 7 [(0, .ref a_this), (2, .int x2), (3, .int x3), (4, .int x4), (5, .int x5)] := hl
          have hf : bX8_times_94 x2 x3 x4 g_now g_first x5 g_sums g_other = some t := hf
          unfold bX8_times_94 at hf
          refine lv_iload hx hb dX8_times_94 (lv_at hl 4 rfl) ?_
          refine lv_sipush (v := 241) hx hb dX8_times_96 (by decide) ?_
          refine lv_icmp_ge (tgt := 130) hx hb dX8_times_99 (by decide) (fun c13 => ?_) (fun c13 => ?_)
          · have hf := br_pos c13 hf
            refine lv_iconst (v := 0) hx hb dX8_times_130 (by decide) ?_
            refine lv_istore (lv' := [(5, .int (0 : Int32)), (0, .ref a_this), (2, .int x2), (3, .int x3), (4, .int x4)]) hx hb dX8_times_131 hl (by decide) rfl (fun ls hl => ?_)
            obtain ⟨t14, hf, hF⟩ := ml_fin hf hF
            exact w133 x4 g_other (0 : Int32) g_sums _ H locs ls hf hF hP hD hS (lv_sub hl [1, 2, 3, 4, 0] rfl)
          · have hf := br_neg c13 hf
            refine lv_aload_n hx hb dX8_times_102 rfl (lv_at hl 0 rfl) ?_
            refine va_get (D := D) (ci := 8) (v := .ref a_other) (C := RX8) (T := TX8) (N := 17) hx hb hts z1 hown hN.1 hP 0 rfl rfl 10 (by decide) z2 (fun _ h9 => h9) rfl dX8_times_103 ?_
            refine lv_iload hx hb dX8_times_106 (lv_at hl 4 rfl) ?_
            refine lv_aload_n hx hb dX8_times_108 rfl (lv_at hl 0 rfl) ?_
            refine va_get (D := D) (ci := 8) (v := .ref a_sums) (C := RX8) (T := TX8) (N := 17) hx hb hts z1 hown hN.1 hP 0 rfl rfl 9 (by decide) z3 (fun _ h9 => h9) rfl dX8_times_109 ?_
            refine lv_iload hx hb dX8_times_112 (lv_at hl 4 rfl) ?_
            obtain ⟨c15, hf⟩ := gd_some hf
            refine va_zald hx hb hN.1 hP 3 3 rfl rfl (ix_in c15) dX8_times_114 ?_
            refine lv_topi (fun y16 ey16 => ?_)
            have hf := lt_some hf y16 ey16
            obtain ⟨c17, hf⟩ := gd_some hf
            refine va_zast hx hb hN.1 hP hD hS 4 3 rfl rfl (ix_in c17) dX8_times_115 (fun H locs hP hD hS => ?_)
            obtain ⟨y18, ey18⟩ : ∃ z, z = upd g_other x5.toNatClampNeg (vp_nar .boolean y16) := ⟨_, rfl⟩
            have hf := lt_some hf y18 ey18
            have hP : va_P D vwCl [(a_this, .inr (8, [.int g_length, .ref a_text, .ref a_now, .ref a_before, .int g_undoMany, .ref a_read, .int g_spot, .ref a_first, .ref a_second, .ref a_sums, .ref a_other, .int g_step, .int g_coverMany, .ref a_grid, .ref a_order, .int g_leastSums, .int g_leastPart])), (a_now, .inl (cZ, 164, .inl g_now)), (a_first, .inl (cI, 41, .inl g_first)), (a_sums, .inl (cZ, 241, .inl g_sums)), (a_other, .inl (cZ, 241, .inl y18))] H := by rw [ey18]; exact hP
            have hD : va_D A [(a_this, .inr (8, [.int g_length, .ref a_text, .ref a_now, .ref a_before, .int g_undoMany, .ref a_read, .int g_spot, .ref a_first, .ref a_second, .ref a_sums, .ref a_other, .int g_step, .int g_coverMany, .ref a_grid, .ref a_order, .int g_leastSums, .int g_leastPart])), (a_now, .inl (cZ, 164, .inl g_now)), (a_first, .inl (cI, 41, .inl g_first)), (a_sums, .inl (cZ, 241, .inl g_sums)), (a_other, .inl (cZ, 241, .inl y18))] := by rw [ey18]; exact hD
            refine lv_aload_n hx hb dX8_times_116 rfl (lv_at hl 0 rfl) ?_
            refine va_get (D := D) (ci := 8) (v := .ref a_sums) (C := RX8) (T := TX8) (N := 17) hx hb hts z1 hown hN.1 hP 0 rfl rfl 9 (by decide) z3 (fun _ h9 => h9) rfl dX8_times_117 ?_
            refine lv_iload hx hb dX8_times_120 (lv_at hl 4 rfl) ?_
            refine lv_iconst (v := 0) hx hb dX8_times_122 (by decide) ?_
            obtain ⟨c19, hf⟩ := gd_some hf
            refine va_zast hx hb hN.1 hP hD hS 3 3 rfl rfl (ix_in c19) dX8_times_123 (fun H locs hP hD hS => ?_)
            obtain ⟨y20, ey20⟩ : ∃ z, z = upd g_sums x5.toNatClampNeg (vp_nar .boolean (0 : Int32)) := ⟨_, rfl⟩
            have hf := lt_some hf y20 ey20
            have hP : va_P D vwCl [(a_this, .inr (8, [.int g_length, .ref a_text, .ref a_now, .ref a_before, .int g_undoMany, .ref a_read, .int g_spot, .ref a_first, .ref a_second, .ref a_sums, .ref a_other, .int g_step, .int g_coverMany, .ref a_grid, .ref a_order, .int g_leastSums, .int g_leastPart])), (a_now, .inl (cZ, 164, .inl g_now)), (a_first, .inl (cI, 41, .inl g_first)), (a_sums, .inl (cZ, 241, .inl y20)), (a_other, .inl (cZ, 241, .inl y18))] H := by rw [ey20]; exact hP
            have hD : va_D A [(a_this, .inr (8, [.int g_length, .ref a_text, .ref a_now, .ref a_before, .int g_undoMany, .ref a_read, .int g_spot, .ref a_first, .ref a_second, .ref a_sums, .ref a_other, .int g_step, .int g_coverMany, .ref a_grid, .ref a_order, .int g_leastSums, .int g_leastPart])), (a_now, .inl (cZ, 164, .inl g_now)), (a_first, .inl (cI, 41, .inl g_first)), (a_sums, .inl (cZ, 241, .inl y20)), (a_other, .inl (cZ, 241, .inl y18))] := by rw [ey20]; exact hD
            obtain ⟨y21, ey21⟩ : ∃ z : Int32, z = x5 + (1 : Int32) := ⟨_, rfl⟩
            have hf := lt_some hf y21 ey21
            refine lv_iinc (v := y21) (lv' := [(5, .int y21), (0, .ref a_this), (2, .int x2), (3, .int x3), (4, .int x4)]) hx hb dX8_times_124 hl (k := 4) rfl (by rw [ey21]; rfl) (by decide) rfl (fun ls hl => ?_)
            refine lv_goto (tgt := 94) hx hb dX8_times_127 (by decide) ?_
            cases hf
            exact ((congrFun eF94 _).mp hF) H locs ls hP hD hS (lv_sub hl [1, 2, 3, 4, 0] rfl)
        intro x5 g_sums g_other t H locs ls hf hF hP hD hS hl
        exact ((congrFun eF94 _).mp (key ((x5, g_sums, g_other)) t hf hF)) H locs ls hP hD hS hl
      rw [eF85]
      obtain ⟨x4, g_sums, g_other⟩ := q
      intro H locs ls hP hD hS hl
      have hP : va_P D vwCl [(a_this, .inr (8, [.int g_length, .ref a_text, .ref a_now, .ref a_before, .int g_undoMany, .ref a_read, .int g_spot, .ref a_first, .ref a_second, .ref a_sums, .ref a_other, .int g_step, .int g_coverMany, .ref a_grid, .ref a_order, .int g_leastSums, .int g_leastPart])), (a_now, .inl (cZ, 164, .inl g_now)), (a_first, .inl (cI, 41, .inl g_first)), (a_sums, .inl (cZ, 241, .inl g_sums)), (a_other, .inl (cZ, 241, .inl g_other))] H := hP
      have hD : va_D A [(a_this, .inr (8, [.int g_length, .ref a_text, .ref a_now, .ref a_before, .int g_undoMany, .ref a_read, .int g_spot, .ref a_first, .ref a_second, .ref a_sums, .ref a_other, .int g_step, .int g_coverMany, .ref a_grid, .ref a_order, .int g_leastSums, .int g_leastPart])), (a_now, .inl (cZ, 164, .inl g_now)), (a_first, .inl (cI, 41, .inl g_first)), (a_sums, .inl (cZ, 241, .inl g_sums)), (a_other, .inl (cZ, 241, .inl g_other))] := hD
      have hl : lv_has ls 7 [(0, .ref a_this), (2, .int x2), (3, .int x3), (4, .int x4)] := hl
      have hf : bX8_times_85 x2 x3 g_now g_first x4 g_sums g_other = some t := hf
      unfold bX8_times_85 at hf
      refine lv_iload hx hb dX8_times_85 (lv_at hl 3 rfl) ?_
      refine lv_iload_n hx hb dX8_times_87 rfl (lv_at hl 1 rfl) ?_
      refine lv_icmp_ge (tgt := 194) hx hb dX8_times_88 (by decide) (fun c22 => ?_) (fun c22 => ?_)
      · have hf := br_pos c22 hf
        refine lv_aload_n hx hb dX8_times_194 rfl (lv_at hl 0 rfl) ?_
        refine lv_aload_n hx hb dX8_times_195 rfl (lv_at hl 0 rfl) ?_
        refine va_get (D := D) (ci := 8) (v := .ref a_sums) (C := RX8) (T := TX8) (N := 17) hx hb hts z1 hown hN.1 hP 0 rfl rfl 9 (by decide) z3 (fun _ h9 => h9) rfl dX8_times_196 ?_
        obtain ⟨u23, hu23, hf⟩ := bd_some hf
        refine caVI (rest := []) (As := [.ref a_sums]) (wr := [(a_this, .inr (8, [.int g_length, .ref a_text, .ref a_now, .ref a_before, .int g_undoMany, .ref a_read, .int g_spot, .ref a_first, .ref a_second, .ref a_sums, .ref a_other, .int g_step, .int g_coverMany, .ref a_grid, .ref a_order, .int g_leastSums, .int g_leastPart])), (a_now, .inl (cZ, 164, .inl g_now)), (a_first, .inl (cI, 41, .inl g_first)), (a_other, .inl (cZ, 241, .inl g_other))]) (wo := [(a_this, .inr (8, [.int g_length, .ref a_text, .ref a_now, .ref a_before, .int g_undoMany, .ref a_read, .int g_spot, .ref a_first, .ref a_second, .ref a_sums, .ref a_other, .int g_step, .int g_coverMany, .ref a_grid, .ref a_order, .int g_leastSums, .int g_leastPart])), (a_now, .inl (cZ, 164, .inl g_now)), (a_first, .inl (cI, 41, .inl g_first)), (a_sums, .inl (cZ, 241, .inl g_sums)), (a_other, .inl (cZ, 241, .inl g_other))]) ⟨hx, hb, hml, hown, hts⟩ hN hP hD hS hA (cX8_ones_ct l D cI cL cC cZ a_this a_sums 241 g_sums u23 hu23) z5 0 8 rfl rfl [3] [0, 1, 2, 4] [0, 1, 2, 4, 3] rfl (by decide) rfl (by decide) (by decide) rfl (by decide) rfl hl.1 rfl (Nat.le_of_ble_eq_true rfl) dX8_times_199 ⟨Nat.zero_le _, Nat.zero_le _⟩ (fun H locs hP hD hS => ?_)
        cases hf
        have hE : (u23, g_first, g_sums, g_other) = (r0, v_first, v_sums, v_other) := hF
        simp only [Prod.mk.injEq] at hE
        obtain ⟨rfl, rfl, rfl, rfl⟩ := hE
        exact rtI hx hb hr hlk hP hD hS dX8_times_202
      · have hf := br_neg c22 hf
        refine lv_iconst (v := 0) hx hb dX8_times_91 (by decide) ?_
        refine lv_istore (lv' := [(5, .int (0 : Int32)), (0, .ref a_this), (2, .int x2), (3, .int x3), (4, .int x4)]) hx hb dX8_times_92 hl (by decide) rfl (fun ls hl => ?_)
        exact w94 x4 (0 : Int32) g_sums g_other _ H locs ls hf hF hP hD hS (lv_sub hl [1, 2, 3, 4, 0] rfl)
    intro x4 g_sums g_other t H locs ls hf hF hP hD hS hl
    exact ((congrFun eF85 _).mp (key ((x4, g_sums, g_other)) t hf hF)) H locs ls hP hD hS hl
  have w34 : ∀ (x1 : Int32) (x2 : Int32) (x3 : Int32) (g_now : Nat → Int32) (g_first : Nat → Int32) (g_other : Nat → Int32) (x4 : Int32) (g_sums : Nat → Int32) (t : Int32 × (Nat → Int32) × (Nat → Int32) × (Nat → Int32)) (H : Heap) (locs : List Loc) (ls : Array Slot), run (sX8_times_34 x1 x2 x3 g_now g_first g_other) ((x4, g_sums)) = some t → (fun z => z = (r0, v_first, v_sums, v_other)) t → va_P D vwCl [(a_this, .inr (8, [.int g_length, .ref a_text, .ref a_now, .ref a_before, .int g_undoMany, .ref a_read, .int g_spot, .ref a_first, .ref a_second, .ref a_sums, .ref a_other, .int g_step, .int g_coverMany, .ref a_grid, .ref a_order, .int g_leastSums, .int g_leastPart])), (a_now, .inl (cZ, 164, .inl g_now)), (a_first, .inl (cI, 41, .inl g_first)), (a_sums, .inl (cZ, 241, .inl g_sums)), (a_other, .inl (cZ, 241, .inl g_other))] H → va_D A [(a_this, .inr (8, [.int g_length, .ref a_text, .ref a_now, .ref a_before, .int g_undoMany, .ref a_read, .int g_spot, .ref a_first, .ref a_second, .ref a_sums, .ref a_other, .int g_step, .int g_coverMany, .ref a_grid, .ref a_order, .int g_leastSums, .int g_leastPart])), (a_now, .inl (cZ, 164, .inl g_now)), (a_first, .inl (cI, 41, .inl g_first)), (a_sums, .inl (cZ, 241, .inl g_sums)), (a_other, .inl (cZ, 241, .inl g_other))] → va_S A s.heap H locs → lv_has ls 7 [(0, .ref a_this), (1, .int x1), (2, .int x2), (3, .int x3), (4, .int x4)] → W p l e rmX8_times s m ([.ref a_this, .int q1, .int q2] : List Value).toArray below meth c H locs 0 0 (MQ below (cQi D r0 A [(a_this, .inr (8, [.int g_length, .ref a_text, .ref a_now, .ref a_before, .int g_undoMany, .ref a_read, .int g_spot, .ref a_first, .ref a_second, .ref a_sums, .ref a_other, .int g_step, .int g_coverMany, .ref a_grid, .ref a_order, .int g_leastSums, .int g_leastPart])), (a_now, .inl (cZ, 164, .inl g_now)), (a_first, .inl (cI, 41, .inl v_first)), (a_sums, .inl (cZ, 241, .inl v_sums)), (a_other, .inl (cZ, 241, .inl v_other))]) ([.ref a_this, .int q1, .int q2] : List Value).toArray s 0 0 A) (F0 m 34 ls []) := by
    intro x1 x2 x3 g_now g_first g_other
    obtain ⟨F34, eF34⟩ : ∃ F : (Int32 × (Nat → Int32)) → Prop, F = fun q => ∀ (H : Heap) (locs : List Loc) (ls : Array Slot), va_P D vwCl [(a_this, .inr (8, [.int g_length, .ref a_text, .ref a_now, .ref a_before, .int g_undoMany, .ref a_read, .int g_spot, .ref a_first, .ref a_second, .ref a_sums, .ref a_other, .int g_step, .int g_coverMany, .ref a_grid, .ref a_order, .int g_leastSums, .int g_leastPart])), (a_now, .inl (cZ, 164, .inl g_now)), (a_first, .inl (cI, 41, .inl g_first)), (a_sums, .inl (cZ, 241, .inl q.2)), (a_other, .inl (cZ, 241, .inl g_other))] H → va_D A [(a_this, .inr (8, [.int g_length, .ref a_text, .ref a_now, .ref a_before, .int g_undoMany, .ref a_read, .int g_spot, .ref a_first, .ref a_second, .ref a_sums, .ref a_other, .int g_step, .int g_coverMany, .ref a_grid, .ref a_order, .int g_leastSums, .int g_leastPart])), (a_now, .inl (cZ, 164, .inl g_now)), (a_first, .inl (cI, 41, .inl g_first)), (a_sums, .inl (cZ, 241, .inl q.2)), (a_other, .inl (cZ, 241, .inl g_other))] → va_S A s.heap H locs → lv_has ls 7 [(0, .ref a_this), (1, .int x1), (2, .int x2), (3, .int x3), (4, .int q.1)] → W p l e rmX8_times s m ([.ref a_this, .int q1, .int q2] : List Value).toArray below meth c H locs 0 0 (MQ below (cQi D r0 A [(a_this, .inr (8, [.int g_length, .ref a_text, .ref a_now, .ref a_before, .int g_undoMany, .ref a_read, .int g_spot, .ref a_first, .ref a_second, .ref a_sums, .ref a_other, .int g_step, .int g_coverMany, .ref a_grid, .ref a_order, .int g_leastSums, .int g_leastPart])), (a_now, .inl (cZ, 164, .inl g_now)), (a_first, .inl (cI, 41, .inl v_first)), (a_sums, .inl (cZ, 241, .inl v_sums)), (a_other, .inl (cZ, 241, .inl v_other))]) ([.ref a_this, .int q1, .int q2] : List Value).toArray s 0 0 A) (F0 m 34 ls []) := ⟨_, rfl⟩
    have key : ∀ (q : Int32 × (Nat → Int32)) (t : Int32 × (Nat → Int32) × (Nat → Int32) × (Nat → Int32)), run (sX8_times_34 x1 x2 x3 g_now g_first g_other) q = some t → (fun z => z = (r0, v_first, v_sums, v_other)) t → F34 q := by
      refine loop_rule (sX8_times_34 x1 x2 x3 g_now g_first g_other) F34 (fun z => z = (r0, v_first, v_sums, v_other)) ?_
      intro q t hf hF
      have hF : (Sum.elim F34 (fun z => z = (r0, v_first, v_sums, v_other))) t := hF
      have w75 : ∀ (x4 : Int32) (k1 : Int32) (k2 : Int32) (g_sums : Nat → Int32) (t : (Int32 × (Nat → Int32)) ⊕ (Int32 × (Nat → Int32) × (Nat → Int32) × (Nat → Int32))) (H : Heap) (locs : List Loc) (ls : Array Slot), bX8_times_75 x1 x2 x3 x4 k1 k2 g_now g_first g_sums g_other = some t → (Sum.elim F34 (fun z => z = (r0, v_first, v_sums, v_other))) t → va_P D vwCl [(a_this, .inr (8, [.int g_length, .ref a_text, .ref a_now, .ref a_before, .int g_undoMany, .ref a_read, .int g_spot, .ref a_first, .ref a_second, .ref a_sums, .ref a_other, .int g_step, .int g_coverMany, .ref a_grid, .ref a_order, .int g_leastSums, .int g_leastPart])), (a_now, .inl (cZ, 164, .inl g_now)), (a_first, .inl (cI, 41, .inl g_first)), (a_sums, .inl (cZ, 241, .inl g_sums)), (a_other, .inl (cZ, 241, .inl g_other))] H → va_D A [(a_this, .inr (8, [.int g_length, .ref a_text, .ref a_now, .ref a_before, .int g_undoMany, .ref a_read, .int g_spot, .ref a_first, .ref a_second, .ref a_sums, .ref a_other, .int g_step, .int g_coverMany, .ref a_grid, .ref a_order, .int g_leastSums, .int g_leastPart])), (a_now, .inl (cZ, 164, .inl g_now)), (a_first, .inl (cI, 41, .inl g_first)), (a_sums, .inl (cZ, 241, .inl g_sums)), (a_other, .inl (cZ, 241, .inl g_other))] → va_S A s.heap H locs → lv_has ls 7 [(0, .ref a_this), (1, .int x1), (2, .int x2), (3, .int x3), (4, .int x4)] → W p l e rmX8_times s m ([.ref a_this, .int q1, .int q2] : List Value).toArray below meth c H locs 0 0 (MQ below (cQi D r0 A [(a_this, .inr (8, [.int g_length, .ref a_text, .ref a_now, .ref a_before, .int g_undoMany, .ref a_read, .int g_spot, .ref a_first, .ref a_second, .ref a_sums, .ref a_other, .int g_step, .int g_coverMany, .ref a_grid, .ref a_order, .int g_leastSums, .int g_leastPart])), (a_now, .inl (cZ, 164, .inl g_now)), (a_first, .inl (cI, 41, .inl v_first)), (a_sums, .inl (cZ, 241, .inl v_sums)), (a_other, .inl (cZ, 241, .inl v_other))]) ([.ref a_this, .int q1, .int q2] : List Value).toArray s 0 0 A) (F0 m 75 ls [.int k2, .int k1, .ref a_sums]) := by
        intro x4 k1 k2 g_sums t H locs ls hf hF hP hD hS hl
        unfold bX8_times_75 at hf
        obtain ⟨c24, hf⟩ := gd_some hf
        refine va_zast hx hb hN.1 hP hD hS 3 3 rfl rfl (ix_in c24) dX8_times_75 (fun H locs hP hD hS => ?_)
        obtain ⟨y25, ey25⟩ : ∃ z, z = upd g_sums k1.toNatClampNeg (vp_nar .boolean k2) := ⟨_, rfl⟩
        have hf := lt_some hf y25 ey25
        have hP : va_P D vwCl [(a_this, .inr (8, [.int g_length, .ref a_text, .ref a_now, .ref a_before, .int g_undoMany, .ref a_read, .int g_spot, .ref a_first, .ref a_second, .ref a_sums, .ref a_other, .int g_step, .int g_coverMany, .ref a_grid, .ref a_order, .int g_leastSums, .int g_leastPart])), (a_now, .inl (cZ, 164, .inl g_now)), (a_first, .inl (cI, 41, .inl g_first)), (a_sums, .inl (cZ, 241, .inl y25)), (a_other, .inl (cZ, 241, .inl g_other))] H := by rw [ey25]; exact hP
        have hD : va_D A [(a_this, .inr (8, [.int g_length, .ref a_text, .ref a_now, .ref a_before, .int g_undoMany, .ref a_read, .int g_spot, .ref a_first, .ref a_second, .ref a_sums, .ref a_other, .int g_step, .int g_coverMany, .ref a_grid, .ref a_order, .int g_leastSums, .int g_leastPart])), (a_now, .inl (cZ, 164, .inl g_now)), (a_first, .inl (cI, 41, .inl g_first)), (a_sums, .inl (cZ, 241, .inl y25)), (a_other, .inl (cZ, 241, .inl g_other))] := by rw [ey25]; exact hD
        obtain ⟨y26, ey26⟩ : ∃ z : Int32, z = x4 + (1 : Int32) := ⟨_, rfl⟩
        have hf := lt_some hf y26 ey26
        refine lv_iinc (v := y26) (lv' := [(4, .int y26), (0, .ref a_this), (1, .int x1), (2, .int x2), (3, .int x3)]) hx hb dX8_times_76 hl (k := 4) rfl (by rw [ey26]; rfl) (by decide) rfl (fun ls hl => ?_)
        refine lv_goto (tgt := 34) hx hb dX8_times_79 (by decide) ?_
        cases hf
        exact ((congrFun eF34 _).mp hF) H locs ls hP hD hS (lv_sub hl [1, 2, 3, 4, 0] rfl)
      have w74 : ∀ (x4 : Int32) (k1 : Int32) (g_sums : Nat → Int32) (t : (Int32 × (Nat → Int32)) ⊕ (Int32 × (Nat → Int32) × (Nat → Int32) × (Nat → Int32))) (H : Heap) (locs : List Loc) (ls : Array Slot), bX8_times_74 x1 x2 x3 x4 k1 g_now g_first g_sums g_other = some t → (Sum.elim F34 (fun z => z = (r0, v_first, v_sums, v_other))) t → va_P D vwCl [(a_this, .inr (8, [.int g_length, .ref a_text, .ref a_now, .ref a_before, .int g_undoMany, .ref a_read, .int g_spot, .ref a_first, .ref a_second, .ref a_sums, .ref a_other, .int g_step, .int g_coverMany, .ref a_grid, .ref a_order, .int g_leastSums, .int g_leastPart])), (a_now, .inl (cZ, 164, .inl g_now)), (a_first, .inl (cI, 41, .inl g_first)), (a_sums, .inl (cZ, 241, .inl g_sums)), (a_other, .inl (cZ, 241, .inl g_other))] H → va_D A [(a_this, .inr (8, [.int g_length, .ref a_text, .ref a_now, .ref a_before, .int g_undoMany, .ref a_read, .int g_spot, .ref a_first, .ref a_second, .ref a_sums, .ref a_other, .int g_step, .int g_coverMany, .ref a_grid, .ref a_order, .int g_leastSums, .int g_leastPart])), (a_now, .inl (cZ, 164, .inl g_now)), (a_first, .inl (cI, 41, .inl g_first)), (a_sums, .inl (cZ, 241, .inl g_sums)), (a_other, .inl (cZ, 241, .inl g_other))] → va_S A s.heap H locs → lv_has ls 7 [(0, .ref a_this), (1, .int x1), (2, .int x2), (3, .int x3), (4, .int x4)] → W p l e rmX8_times s m ([.ref a_this, .int q1, .int q2] : List Value).toArray below meth c H locs 0 0 (MQ below (cQi D r0 A [(a_this, .inr (8, [.int g_length, .ref a_text, .ref a_now, .ref a_before, .int g_undoMany, .ref a_read, .int g_spot, .ref a_first, .ref a_second, .ref a_sums, .ref a_other, .int g_step, .int g_coverMany, .ref a_grid, .ref a_order, .int g_leastSums, .int g_leastPart])), (a_now, .inl (cZ, 164, .inl g_now)), (a_first, .inl (cI, 41, .inl v_first)), (a_sums, .inl (cZ, 241, .inl v_sums)), (a_other, .inl (cZ, 241, .inl v_other))]) ([.ref a_this, .int q1, .int q2] : List Value).toArray s 0 0 A) (F0 m 74 ls [.int k1, .ref a_sums]) := by
        intro x4 k1 g_sums t H locs ls hf hF hP hD hS hl
        unfold bX8_times_74 at hf
        refine lv_iconst (v := 0) hx hb dX8_times_74 (by decide) ?_
        exact w75 x4 k1 (0 : Int32) g_sums _ H locs ls hf hF hP hD hS (lv_sub hl [0, 1, 2, 3, 4] rfl)
      rw [eF34]
      obtain ⟨x4, g_sums⟩ := q
      intro H locs ls hP hD hS hl
      have hP : va_P D vwCl [(a_this, .inr (8, [.int g_length, .ref a_text, .ref a_now, .ref a_before, .int g_undoMany, .ref a_read, .int g_spot, .ref a_first, .ref a_second, .ref a_sums, .ref a_other, .int g_step, .int g_coverMany, .ref a_grid, .ref a_order, .int g_leastSums, .int g_leastPart])), (a_now, .inl (cZ, 164, .inl g_now)), (a_first, .inl (cI, 41, .inl g_first)), (a_sums, .inl (cZ, 241, .inl g_sums)), (a_other, .inl (cZ, 241, .inl g_other))] H := hP
      have hD : va_D A [(a_this, .inr (8, [.int g_length, .ref a_text, .ref a_now, .ref a_before, .int g_undoMany, .ref a_read, .int g_spot, .ref a_first, .ref a_second, .ref a_sums, .ref a_other, .int g_step, .int g_coverMany, .ref a_grid, .ref a_order, .int g_leastSums, .int g_leastPart])), (a_now, .inl (cZ, 164, .inl g_now)), (a_first, .inl (cI, 41, .inl g_first)), (a_sums, .inl (cZ, 241, .inl g_sums)), (a_other, .inl (cZ, 241, .inl g_other))] := hD
      have hl : lv_has ls 7 [(0, .ref a_this), (1, .int x1), (2, .int x2), (3, .int x3), (4, .int x4)] := hl
      have hf : bX8_times_34 x1 x2 x3 g_now g_first g_other x4 g_sums = some t := hf
      unfold bX8_times_34 at hf
      refine lv_iload hx hb dX8_times_34 (lv_at hl 4 rfl) ?_
      refine lv_sipush (v := 241) hx hb dX8_times_36 (by decide) ?_
      refine lv_icmp_ge (tgt := 82) hx hb dX8_times_39 (by decide) (fun c27 => ?_) (fun c27 => ?_)
      · have hf := br_pos c27 hf
        refine lv_iconst (v := 1) hx hb dX8_times_82 (by decide) ?_
        refine lv_istore (lv' := [(4, .int (1 : Int32)), (0, .ref a_this), (1, .int x1), (2, .int x2), (3, .int x3)]) hx hb dX8_times_83 hl (by decide) rfl (fun ls hl => ?_)
        obtain ⟨t28, hf, hF⟩ := ml_fin hf hF
        have hF : t28 = (r0, v_first, v_sums, v_other) := hF
        rw [hF] at hf
        exact w85 x2 x3 g_now g_first (1 : Int32) g_sums g_other (r0, v_first, v_sums, v_other) H locs ls hf rfl hP hD hS (lv_sub hl [1, 3, 4, 0] rfl)
      · have hf := br_neg c27 hf
        refine lv_aload_n hx hb dX8_times_42 rfl (lv_at hl 0 rfl) ?_
        refine va_get (D := D) (ci := 8) (v := .ref a_sums) (C := RX8) (T := TX8) (N := 17) hx hb hts z1 hown hN.1 hP 0 rfl rfl 9 (by decide) z3 (fun _ h9 => h9) rfl dX8_times_43 ?_
        refine lv_iload hx hb dX8_times_46 (lv_at hl 4 rfl) ?_
        refine lv_iload hx hb dX8_times_48 (lv_at hl 4 rfl) ?_
        refine lv_bipush (v := 41) hx hb dX8_times_50 (by decide) ?_
        refine lv_icmp_ge (tgt := 74) hx hb dX8_times_52 (by decide) (fun c29 => ?_) (fun c29 => ?_)
        · have hf := br_pos c29 hf
          exact w74 x4 x4 g_sums _ H locs ls hf hF hP hD hS (lv_sub hl [0, 1, 2, 3, 4] rfl)
        · have hf := br_neg c29 hf
          refine lv_aload_n hx hb dX8_times_55 rfl (lv_at hl 0 rfl) ?_
          refine va_get (D := D) (ci := 8) (v := .ref a_now) (C := RX8) (T := TX8) (N := 17) hx hb hts z1 hown hN.1 hP 0 rfl rfl 2 (by decide) z6 (fun _ h9 => h9) rfl dX8_times_56 ?_
          refine lv_bipush (v := 41) hx hb dX8_times_59 (by decide) ?_
          refine lv_iload_n hx hb dX8_times_61 rfl (lv_at hl 1 rfl) ?_
          refine lv_imul hx hb dX8_times_62 ?_
          refine lv_iload hx hb dX8_times_63 (lv_at hl 4 rfl) ?_
          refine lv_iadd hx hb dX8_times_65 ?_
          obtain ⟨c30, hf⟩ := gd_some hf
          refine va_zald hx hb hN.1 hP 1 3 rfl rfl (ix_in c30) dX8_times_66 ?_
          refine lv_if_eq (tgt := 74) hx hb dX8_times_67 (by decide) (fun c31 => ?_) (fun c31 => ?_)
          · have hf := br_pos c31 hf
            exact w74 x4 x4 g_sums _ H locs ls hf hF hP hD hS (lv_sub hl [0, 1, 2, 3, 4] rfl)
          · have hf := br_neg c31 hf
            refine lv_iconst (v := 1) hx hb dX8_times_70 (by decide) ?_
            refine lv_goto (tgt := 75) hx hb dX8_times_71 (by decide) ?_
            exact w75 x4 x4 (1 : Int32) g_sums _ H locs ls hf hF hP hD hS (lv_sub hl [0, 1, 2, 3, 4] rfl)
    intro x4 g_sums t H locs ls hf hF hP hD hS hl
    exact ((congrFun eF34 _).mp (key ((x4, g_sums)) t hf hF)) H locs ls hP hD hS hl
  unfold fX8_times at hf
  obtain ⟨H, eH⟩ : ∃ z, z = s.heap := ⟨_, rfl⟩
  obtain ⟨locs, eL⟩ : ∃ z : List Loc, z = [] := ⟨_, rfl⟩
  have hP : va_P D vwCl [(a_this, .inr (8, [.int g_length, .ref a_text, .ref a_now, .ref a_before, .int g_undoMany, .ref a_read, .int g_spot, .ref a_first, .ref a_second, .ref a_sums, .ref a_other, .int g_step, .int g_coverMany, .ref a_grid, .ref a_order, .int g_leastSums, .int g_leastPart])), (a_now, .inl (cZ, 164, .inl g_now)), (a_first, .inl (cI, 41, .inl g_first)), (a_sums, .inl (cZ, 241, .inl g_sums)), (a_other, .inl (cZ, 241, .inl g_other))] H := by rw [eH]; exact hP
  have hS : va_S A s.heap H locs := by rw [eH, eL]; exact hS
  suffices hG : W p l e rmX8_times s m ([.ref a_this, .int q1, .int q2] : List Value).toArray below meth c H locs 0 0 (MQ below (cQi D r0 A [(a_this, .inr (8, [.int g_length, .ref a_text, .ref a_now, .ref a_before, .int g_undoMany, .ref a_read, .int g_spot, .ref a_first, .ref a_second, .ref a_sums, .ref a_other, .int g_step, .int g_coverMany, .ref a_grid, .ref a_order, .int g_leastSums, .int g_leastPart])), (a_now, .inl (cZ, 164, .inl g_now)), (a_first, .inl (cI, 41, .inl v_first)), (a_sums, .inl (cZ, 241, .inl v_sums)), (a_other, .inl (cZ, 241, .inl v_other))]) ([.ref a_this, .int q1, .int q2] : List Value).toArray s 0 0 A) (F0 m 0 ls []) by rw [eH, eL] at hG; exact hG
  refine lv_iload_n hx hb dX8_times_0 rfl (lv_at hl 1 rfl) ?_
  obtain ⟨u32, hu32, hf⟩ := bd_some hf
  refine caSI (rest := []) (As := [.int q1]) (wr := [(a_this, .inr (8, [.int g_length, .ref a_text, .ref a_now, .ref a_before, .int g_undoMany, .ref a_read, .int g_spot, .ref a_first, .ref a_second, .ref a_sums, .ref a_other, .int g_step, .int g_coverMany, .ref a_grid, .ref a_order, .int g_leastSums, .int g_leastPart])), (a_now, .inl (cZ, 164, .inl g_now)), (a_first, .inl (cI, 41, .inl g_first)), (a_sums, .inl (cZ, 241, .inl g_sums)), (a_other, .inl (cZ, 241, .inl g_other))]) (wo := [(a_this, .inr (8, [.int g_length, .ref a_text, .ref a_now, .ref a_before, .int g_undoMany, .ref a_read, .int g_spot, .ref a_first, .ref a_second, .ref a_sums, .ref a_other, .int g_step, .int g_coverMany, .ref a_grid, .ref a_order, .int g_leastSums, .int g_leastPart])), (a_now, .inl (cZ, 164, .inl g_now)), (a_first, .inl (cI, 41, .inl g_first)), (a_sums, .inl (cZ, 241, .inl g_sums)), (a_other, .inl (cZ, 241, .inl g_other))]) ⟨hx, hb, hml, hown, hts⟩ hN hP hD hS hA (cX8_isSlot_ct l D cI cL cC cZ q1 u32 hu32) z7 [] [0, 1, 2, 3, 4] [0, 1, 2, 3, 4] rfl (by decide) rfl (by decide) (by decide) rfl (by decide) rfl hl.1 rfl (Nat.le_of_ble_eq_true rfl) dX8_times_1 ⟨Nat.zero_le _, Nat.zero_le _⟩ (fun H locs hP hD hS => ?_)
  refine lv_if_eq (tgt := 19) hx hb dX8_times_4 (by decide) (fun c33 => ?_) (fun c33 => ?_)
  · have hf := br_pos c33 hf
    refine lv_iconst (v := -1) hx hb dX8_times_19 (by decide) ?_
    have hE : ((-1 : Int32), g_first, g_sums, g_other) = (r0, v_first, v_sums, v_other) := Option.some.inj hf
    simp only [Prod.mk.injEq] at hE
    obtain ⟨rfl, rfl, rfl, rfl⟩ := hE
    exact rtI hx hb hr hlk hP hD hS dX8_times_20
  · have hf := br_neg c33 hf
    refine lv_iload_n hx hb dX8_times_7 rfl (lv_at hl 2 rfl) ?_
    refine lv_i2l hx hb dX8_times_8 rfl ?_
    refine lv_lconst (v := 1) hx hb dX8_times_9 (by decide) ?_
    refine lv_ldc2 (v := 6) hx hb hown z8 dX8_times_10 ?_
    obtain ⟨u34, hu34, hf⟩ := bd_some hf
    refine caSI (rest := []) (As := [.long q2.toInt64, .long (1 : Int64), .long (6 : Int64)]) (wr := [(a_this, .inr (8, [.int g_length, .ref a_text, .ref a_now, .ref a_before, .int g_undoMany, .ref a_read, .int g_spot, .ref a_first, .ref a_second, .ref a_sums, .ref a_other, .int g_step, .int g_coverMany, .ref a_grid, .ref a_order, .int g_leastSums, .int g_leastPart])), (a_now, .inl (cZ, 164, .inl g_now)), (a_first, .inl (cI, 41, .inl g_first)), (a_sums, .inl (cZ, 241, .inl g_sums)), (a_other, .inl (cZ, 241, .inl g_other))]) (wo := [(a_this, .inr (8, [.int g_length, .ref a_text, .ref a_now, .ref a_before, .int g_undoMany, .ref a_read, .int g_spot, .ref a_first, .ref a_second, .ref a_sums, .ref a_other, .int g_step, .int g_coverMany, .ref a_grid, .ref a_order, .int g_leastSums, .int g_leastPart])), (a_now, .inl (cZ, 164, .inl g_now)), (a_first, .inl (cI, 41, .inl g_first)), (a_sums, .inl (cZ, 241, .inl g_sums)), (a_other, .inl (cZ, 241, .inl g_other))]) ⟨hx, hb, hml, hown, hts⟩ hN hP hD hS hA (cX8_in_ct l D cI cL cC cZ q2.toInt64 (1 : Int64) (6 : Int64) u34 hu34) z9 [] [0, 1, 2, 3, 4] [0, 1, 2, 3, 4] rfl (by decide) rfl (by decide) (by decide) rfl (by decide) rfl hl.1 rfl (Nat.le_of_ble_eq_true rfl) dX8_times_13 ⟨Nat.zero_le _, Nat.zero_le _⟩ (fun H locs hP hD hS => ?_)
    refine lv_if_ne (tgt := 21) hx hb dX8_times_16 (by decide) (fun c35 => ?_) (fun c35 => ?_)
    · have hf := br_neg c35 hf
      refine lv_aload_n hx hb dX8_times_21 rfl (lv_at hl 0 rfl) ?_
      refine lv_iload_n hx hb dX8_times_22 rfl (lv_at hl 1 rfl) ?_
      refine lv_aload_n hx hb dX8_times_23 rfl (lv_at hl 0 rfl) ?_
      refine va_get (D := D) (ci := 8) (v := .ref a_first) (C := RX8) (T := TX8) (N := 17) hx hb hts z1 hown hN.1 hP 0 rfl rfl 7 (by decide) z4 (fun _ h9 => h9) rfl dX8_times_24 ?_
      obtain ⟨u36, hu36, hf⟩ := bd_some hf
      refine caVI (rest := []) (As := [.int q1, .ref a_first]) (wr := [(a_sums, .inl (cZ, 241, .inl g_sums)), (a_other, .inl (cZ, 241, .inl g_other))]) (wo := [(a_this, .inr (8, [.int g_length, .ref a_text, .ref a_now, .ref a_before, .int g_undoMany, .ref a_read, .int g_spot, .ref a_first, .ref a_second, .ref a_sums, .ref a_other, .int g_step, .int g_coverMany, .ref a_grid, .ref a_order, .int g_leastSums, .int g_leastPart])), (a_now, .inl (cZ, 164, .inl g_now)), (a_first, .inl (cI, 41, .inl u36.2)), (a_sums, .inl (cZ, 241, .inl g_sums)), (a_other, .inl (cZ, 241, .inl g_other))]) ⟨hx, hb, hml, hown, hts⟩ hN hP hD hS hA (cX8_lists_ct l D cI cL cC cZ a_this a_first a_text a_now a_before a_read a_first a_second a_sums a_other a_grid a_order 41 g_length g_undoMany g_spot g_step g_coverMany g_leastSums g_leastPart g_now g_first q1 u36.1 u36.2 hu36) z10 0 8 rfl rfl [0, 1, 2] [3, 4] [2, 3, 4, 0, 1] rfl (by decide) rfl (by decide) (by decide) rfl (by decide) rfl hl.1 rfl (Nat.le_of_ble_eq_true rfl) dX8_times_27 ⟨Nat.zero_le _, Nat.zero_le _⟩ (fun H locs hP hD hS => ?_)
      refine lv_istore_n (lv' := [(3, .int u36.1), (0, .ref a_this), (1, .int q1), (2, .int q2)]) hx hb dX8_times_30 rfl hl (by decide) rfl (fun ls hl => ?_)
      refine lv_iconst (v := 0) hx hb dX8_times_31 (by decide) ?_
      refine lv_istore (lv' := [(4, .int (0 : Int32)), (3, .int u36.1), (0, .ref a_this), (1, .int q1), (2, .int q2)]) hx hb dX8_times_32 hl (by decide) rfl (fun ls hl => ?_)
      exact w34 q1 q2 u36.1 g_now u36.2 g_other (0 : Int32) g_sums (r0, v_first, v_sums, v_other) H locs ls hf rfl hP hD hS (lv_sub hl [2, 3, 4, 1, 0] rfl)
    · have hf := br_pos c35 hf
      refine lv_iconst (v := -1) hx hb dX8_times_19 (by decide) ?_
      have hE : ((-1 : Int32), g_first, g_sums, g_other) = (r0, v_first, v_sums, v_other) := Option.some.inj hf
      simp only [Prod.mk.injEq] at hE
      obtain ⟨rfl, rfl, rfl, rfl⟩ := hE
      exact rtI hx hb hr hlk hP hD hS dX8_times_20
abbrev rmX8_waysOf : Room := { frames := 1, cells := 0, slots := 0, locals := 25 }
noncomputable def bX8_waysOf_67 (x1 : Int32) (x2 : Int32) (x3 : Int32) (x5 : Int32) (k0 : Int32) (k1 : Int32) (g_now : Nat → Int32) : Option ((Int32 × Int32) ⊕ (Int32)) := lt_ (k0 + k1) (fun y1 => lt_ (x5 + (1 : Int32)) (fun y2 => some (Sum.inl ((y1, y2)))))
noncomputable def bX8_waysOf_66 (x1 : Int32) (x2 : Int32) (x3 : Int32) (x5 : Int32) (k0 : Int32) (g_now : Nat → Int32) : Option ((Int32 × Int32) ⊕ (Int32)) := bX8_waysOf_67 x1 x2 x3 x5 k0 (0 : Int32) g_now
noncomputable def bX8_waysOf_6 (x1 : Int32) (x2 : Int32) (x3 : Int32) (g_now : Nat → Int32) (x4 : Int32) (x5 : Int32) : Option ((Int32 × Int32) ⊕ (Int32)) := br ((41 : Int32) ≤ x5) (some (Sum.inr (x4))) (gd (¬ (((41 : Int32) * x1) + x5) < 0 ∧ (((41 : Int32) * x1) + x5).toNatClampNeg < 164) (br ((g_now (((41 : Int32) * x1) + x5).toNatClampNeg) = 0) (bX8_waysOf_66 x1 x2 x3 x5 x4 g_now) (bd (fX8_in ((x3 - x5).toInt64) (0 : Int64) (40 : Int64)) (fun u6 => br (u6 = 0) (bX8_waysOf_66 x1 x2 x3 x5 x4 g_now) (gd (¬ ((((41 : Int32) * x2) + x3) - x5) < 0 ∧ ((((41 : Int32) * x2) + x3) - x5).toNatClampNeg < 164) (br ((g_now ((((41 : Int32) * x2) + x3) - x5).toNatClampNeg) = 0) (bX8_waysOf_66 x1 x2 x3 x5 x4 g_now) (bX8_waysOf_67 x1 x2 x3 x5 x4 (1 : Int32) g_now)))))))
noncomputable def sX8_waysOf_6 (x1 : Int32) (x2 : Int32) (x3 : Int32) (g_now : Nat → Int32) : (Int32 × Int32) → Option ((Int32 × Int32) ⊕ (Int32)) := fun q => bX8_waysOf_6 x1 x2 x3 g_now q.1 q.2
noncomputable def fX8_waysOf (q1 : Int32) (q2 : Int32) (q3 : Int32) (g_now : Nat → Int32) : Option (Int32) := run (sX8_waysOf_6 q1 q2 q3 g_now) (((0 : Int32), (0 : Int32)))
set_option maxHeartbeats 4000000 in
set_option maxRecDepth 100000 in
theorem cX8_waysOf_ct (l : Launch) (D : va_G) (cI cL cC cZ : ClassId) (a_this a_text a_now a_before a_read a_first a_second a_sums a_other a_grid a_order : Nat) (g_length : Int32) (g_undoMany : Int32) (g_spot : Int32) (g_step : Int32) (g_coverMany : Int32) (g_leastSums : Int32) (g_leastPart : Int32) (g_now : Nat → Int32) (q1 : Int32) (q2 : Int32) (q3 : Int32) (r0 : Int32) (hf : fX8_waysOf q1 q2 q3 g_now = some r0) : CtI l yX8_waysOf wsX8_waysOf rmX8_waysOf D (tyz cI cL cC cZ) [.ref a_this, .int q1, .int q2, .int q3] [(a_this, .inr (8, [.int g_length, .ref a_text, .ref a_now, .ref a_before, .int g_undoMany, .ref a_read, .int g_spot, .ref a_first, .ref a_second, .ref a_sums, .ref a_other, .int g_step, .int g_coverMany, .ref a_grid, .ref a_order, .int g_leastSums, .int g_leastPart])), (a_now, .inl (cZ, 164, .inl g_now))] [(a_this, .inr (8, [.int g_length, .ref a_text, .ref a_now, .ref a_before, .int g_undoMany, .ref a_read, .int g_spot, .ref a_first, .ref a_second, .ref a_sums, .ref a_other, .int g_step, .int g_coverMany, .ref a_grid, .ref a_order, .int g_leastSums, .int g_leastPart])), (a_now, .inl (cZ, 164, .inl g_now))] r0 := by
  refine CtI.make (cc := cX8_waysOf) (maxL := 6) (ty := .int) (by decide) rfl (Nat.le_of_ble_eq_true rfl) ?_
  intro p e s m below meth c A ls C0 hN hA hP hD hl
  obtain ⟨hx, hb, hr, hml, hown, hts, hlk⟩ := id C0
  have hown : s.vm.findClass RX8 = some m.cls := hown
  have hS : va_S A s.heap s.heap [] := va_S.rf
  have hP : va_P D vwCl [(a_this, .inr (8, [.int g_length, .ref a_text, .ref a_now, .ref a_before, .int g_undoMany, .ref a_read, .int g_spot, .ref a_first, .ref a_second, .ref a_sums, .ref a_other, .int g_step, .int g_coverMany, .ref a_grid, .ref a_order, .int g_leastSums, .int g_leastPart])), (a_now, .inl (cZ, 164, .inl g_now))] s.heap := hP
  have hD : va_D A [(a_this, .inr (8, [.int g_length, .ref a_text, .ref a_now, .ref a_before, .int g_undoMany, .ref a_read, .int g_spot, .ref a_first, .ref a_second, .ref a_sums, .ref a_other, .int g_step, .int g_coverMany, .ref a_grid, .ref a_order, .int g_leastSums, .int g_leastPart])), (a_now, .inl (cZ, 164, .inl g_now))] := hD
  have hl : lv_has ls 6 [(0, .ref a_this), (1, .int q1), (2, .int q2), (3, .int q3)] := hl
  have z1 : ∀ w ∈ u_ws RX8 TX8 17, w ∈ wsX8_waysOf := by decide +kernel
  have z2 := hts (.fieldLink RX8 13 "LittleSumsModel" "now" "[Z") (by decide +kernel)
  have z3 := hts (.constantLong RX8 90 (40)) (by decide +kernel)
  have z4 := va_cwS (R := rmX8_waysOf) (rm := rmX8_in) (mc := 0) (ms := 0) 3 hts gX8_waysOf_X8_in rfl rfl rfl (by decide +kernel) ⟨Nat.le_of_ble_eq_true rfl, Nat.le_of_ble_eq_true rfl⟩
  have w6 : ∀ (x1 : Int32) (x2 : Int32) (x3 : Int32) (g_now : Nat → Int32) (x4 : Int32) (x5 : Int32) (t : Int32) (H : Heap) (locs : List Loc) (ls : Array Slot), run (sX8_waysOf_6 x1 x2 x3 g_now) ((x4, x5)) = some t → (fun z => z = r0) t → va_P D vwCl [(a_this, .inr (8, [.int g_length, .ref a_text, .ref a_now, .ref a_before, .int g_undoMany, .ref a_read, .int g_spot, .ref a_first, .ref a_second, .ref a_sums, .ref a_other, .int g_step, .int g_coverMany, .ref a_grid, .ref a_order, .int g_leastSums, .int g_leastPart])), (a_now, .inl (cZ, 164, .inl g_now))] H → va_D A [(a_this, .inr (8, [.int g_length, .ref a_text, .ref a_now, .ref a_before, .int g_undoMany, .ref a_read, .int g_spot, .ref a_first, .ref a_second, .ref a_sums, .ref a_other, .int g_step, .int g_coverMany, .ref a_grid, .ref a_order, .int g_leastSums, .int g_leastPart])), (a_now, .inl (cZ, 164, .inl g_now))] → va_S A s.heap H locs → lv_has ls 6 [(0, .ref a_this), (1, .int x1), (2, .int x2), (3, .int x3), (4, .int x4), (5, .int x5)] → W p l e rmX8_waysOf s m ([.ref a_this, .int q1, .int q2, .int q3] : List Value).toArray below meth c H locs 0 0 (MQ below (cQi D r0 A [(a_this, .inr (8, [.int g_length, .ref a_text, .ref a_now, .ref a_before, .int g_undoMany, .ref a_read, .int g_spot, .ref a_first, .ref a_second, .ref a_sums, .ref a_other, .int g_step, .int g_coverMany, .ref a_grid, .ref a_order, .int g_leastSums, .int g_leastPart])), (a_now, .inl (cZ, 164, .inl g_now))]) ([.ref a_this, .int q1, .int q2, .int q3] : List Value).toArray s 0 0 A) (F0 m 6 ls []) := by
    intro x1 x2 x3 g_now
    obtain ⟨F6, eF6⟩ : ∃ F : (Int32 × Int32) → Prop, F = fun q => ∀ (H : Heap) (locs : List Loc) (ls : Array Slot), va_P D vwCl [(a_this, .inr (8, [.int g_length, .ref a_text, .ref a_now, .ref a_before, .int g_undoMany, .ref a_read, .int g_spot, .ref a_first, .ref a_second, .ref a_sums, .ref a_other, .int g_step, .int g_coverMany, .ref a_grid, .ref a_order, .int g_leastSums, .int g_leastPart])), (a_now, .inl (cZ, 164, .inl g_now))] H → va_D A [(a_this, .inr (8, [.int g_length, .ref a_text, .ref a_now, .ref a_before, .int g_undoMany, .ref a_read, .int g_spot, .ref a_first, .ref a_second, .ref a_sums, .ref a_other, .int g_step, .int g_coverMany, .ref a_grid, .ref a_order, .int g_leastSums, .int g_leastPart])), (a_now, .inl (cZ, 164, .inl g_now))] → va_S A s.heap H locs → lv_has ls 6 [(0, .ref a_this), (1, .int x1), (2, .int x2), (3, .int x3), (4, .int q.1), (5, .int q.2)] → W p l e rmX8_waysOf s m ([.ref a_this, .int q1, .int q2, .int q3] : List Value).toArray below meth c H locs 0 0 (MQ below (cQi D r0 A [(a_this, .inr (8, [.int g_length, .ref a_text, .ref a_now, .ref a_before, .int g_undoMany, .ref a_read, .int g_spot, .ref a_first, .ref a_second, .ref a_sums, .ref a_other, .int g_step, .int g_coverMany, .ref a_grid, .ref a_order, .int g_leastSums, .int g_leastPart])), (a_now, .inl (cZ, 164, .inl g_now))]) ([.ref a_this, .int q1, .int q2, .int q3] : List Value).toArray s 0 0 A) (F0 m 6 ls []) := ⟨_, rfl⟩
    have key : ∀ (q : Int32 × Int32) (t : Int32), run (sX8_waysOf_6 x1 x2 x3 g_now) q = some t → (fun z => z = r0) t → F6 q := by
      refine loop_rule (sX8_waysOf_6 x1 x2 x3 g_now) F6 (fun z => z = r0) ?_
      intro q t hf hF
      have hF : (Sum.elim F6 (fun z => z = r0)) t := hF
      have w67 : ∀ (x5 : Int32) (k0 : Int32) (k1 : Int32) (t : (Int32 × Int32) ⊕ (Int32)) (H : Heap) (locs : List Loc) (ls : Array Slot), bX8_waysOf_67 x1 x2 x3 x5 k0 k1 g_now = some t → (Sum.elim F6 (fun z => z = r0)) t → va_P D vwCl [(a_this, .inr (8, [.int g_length, .ref a_text, .ref a_now, .ref a_before, .int g_undoMany, .ref a_read, .int g_spot, .ref a_first, .ref a_second, .ref a_sums, .ref a_other, .int g_step, .int g_coverMany, .ref a_grid, .ref a_order, .int g_leastSums, .int g_leastPart])), (a_now, .inl (cZ, 164, .inl g_now))] H → va_D A [(a_this, .inr (8, [.int g_length, .ref a_text, .ref a_now, .ref a_before, .int g_undoMany, .ref a_read, .int g_spot, .ref a_first, .ref a_second, .ref a_sums, .ref a_other, .int g_step, .int g_coverMany, .ref a_grid, .ref a_order, .int g_leastSums, .int g_leastPart])), (a_now, .inl (cZ, 164, .inl g_now))] → va_S A s.heap H locs → lv_has ls 6 [(0, .ref a_this), (1, .int x1), (2, .int x2), (3, .int x3), (5, .int x5)] → W p l e rmX8_waysOf s m ([.ref a_this, .int q1, .int q2, .int q3] : List Value).toArray below meth c H locs 0 0 (MQ below (cQi D r0 A [(a_this, .inr (8, [.int g_length, .ref a_text, .ref a_now, .ref a_before, .int g_undoMany, .ref a_read, .int g_spot, .ref a_first, .ref a_second, .ref a_sums, .ref a_other, .int g_step, .int g_coverMany, .ref a_grid, .ref a_order, .int g_leastSums, .int g_leastPart])), (a_now, .inl (cZ, 164, .inl g_now))]) ([.ref a_this, .int q1, .int q2, .int q3] : List Value).toArray s 0 0 A) (F0 m 67 ls [.int k1, .int k0]) := by
        intro x5 k0 k1 t H locs ls hf hF hP hD hS hl
        unfold bX8_waysOf_67 at hf
        refine lv_iadd hx hb dX8_waysOf_67 ?_
        refine lv_topi (fun y1 ey1 => ?_)
        have hf := lt_some hf y1 ey1
        refine lv_istore (lv' := [(4, .int y1), (0, .ref a_this), (1, .int x1), (2, .int x2), (3, .int x3), (5, .int x5)]) hx hb dX8_waysOf_68 hl (by decide) rfl (fun ls hl => ?_)
        obtain ⟨y2, ey2⟩ : ∃ z : Int32, z = x5 + (1 : Int32) := ⟨_, rfl⟩
        have hf := lt_some hf y2 ey2
        refine lv_iinc (v := y2) (lv' := [(5, .int y2), (4, .int y1), (0, .ref a_this), (1, .int x1), (2, .int x2), (3, .int x3)]) hx hb dX8_waysOf_70 hl (k := 5) rfl (by rw [ey2]; rfl) (by decide) rfl (fun ls hl => ?_)
        refine lv_goto (tgt := 6) hx hb dX8_waysOf_73 (by decide) ?_
        cases hf
        exact ((congrFun eF6 _).mp hF) H locs ls hP hD hS (lv_sub hl [2, 3, 4, 5, 1, 0] rfl)
      have w66 : ∀ (x5 : Int32) (k0 : Int32) (t : (Int32 × Int32) ⊕ (Int32)) (H : Heap) (locs : List Loc) (ls : Array Slot), bX8_waysOf_66 x1 x2 x3 x5 k0 g_now = some t → (Sum.elim F6 (fun z => z = r0)) t → va_P D vwCl [(a_this, .inr (8, [.int g_length, .ref a_text, .ref a_now, .ref a_before, .int g_undoMany, .ref a_read, .int g_spot, .ref a_first, .ref a_second, .ref a_sums, .ref a_other, .int g_step, .int g_coverMany, .ref a_grid, .ref a_order, .int g_leastSums, .int g_leastPart])), (a_now, .inl (cZ, 164, .inl g_now))] H → va_D A [(a_this, .inr (8, [.int g_length, .ref a_text, .ref a_now, .ref a_before, .int g_undoMany, .ref a_read, .int g_spot, .ref a_first, .ref a_second, .ref a_sums, .ref a_other, .int g_step, .int g_coverMany, .ref a_grid, .ref a_order, .int g_leastSums, .int g_leastPart])), (a_now, .inl (cZ, 164, .inl g_now))] → va_S A s.heap H locs → lv_has ls 6 [(0, .ref a_this), (1, .int x1), (2, .int x2), (3, .int x3), (5, .int x5)] → W p l e rmX8_waysOf s m ([.ref a_this, .int q1, .int q2, .int q3] : List Value).toArray below meth c H locs 0 0 (MQ below (cQi D r0 A [(a_this, .inr (8, [.int g_length, .ref a_text, .ref a_now, .ref a_before, .int g_undoMany, .ref a_read, .int g_spot, .ref a_first, .ref a_second, .ref a_sums, .ref a_other, .int g_step, .int g_coverMany, .ref a_grid, .ref a_order, .int g_leastSums, .int g_leastPart])), (a_now, .inl (cZ, 164, .inl g_now))]) ([.ref a_this, .int q1, .int q2, .int q3] : List Value).toArray s 0 0 A) (F0 m 66 ls [.int k0]) := by
        intro x5 k0 t H locs ls hf hF hP hD hS hl
        unfold bX8_waysOf_66 at hf
        refine lv_iconst (v := 0) hx hb dX8_waysOf_66 (by decide) ?_
        exact w67 x5 k0 (0 : Int32) _ H locs ls hf hF hP hD hS (lv_sub hl [0, 1, 2, 3, 4] rfl)
      rw [eF6]
      obtain ⟨x4, x5⟩ := q
      intro H locs ls hP hD hS hl
      have hP : va_P D vwCl [(a_this, .inr (8, [.int g_length, .ref a_text, .ref a_now, .ref a_before, .int g_undoMany, .ref a_read, .int g_spot, .ref a_first, .ref a_second, .ref a_sums, .ref a_other, .int g_step, .int g_coverMany, .ref a_grid, .ref a_order, .int g_leastSums, .int g_leastPart])), (a_now, .inl (cZ, 164, .inl g_now))] H := hP
      have hD : va_D A [(a_this, .inr (8, [.int g_length, .ref a_text, .ref a_now, .ref a_before, .int g_undoMany, .ref a_read, .int g_spot, .ref a_first, .ref a_second, .ref a_sums, .ref a_other, .int g_step, .int g_coverMany, .ref a_grid, .ref a_order, .int g_leastSums, .int g_leastPart])), (a_now, .inl (cZ, 164, .inl g_now))] := hD
      have hl : lv_has ls 6 [(0, .ref a_this), (1, .int x1), (2, .int x2), (3, .int x3), (4, .int x4), (5, .int x5)] := hl
      have hf : bX8_waysOf_6 x1 x2 x3 g_now x4 x5 = some t := hf
      unfold bX8_waysOf_6 at hf
      refine lv_iload hx hb dX8_waysOf_6 (lv_at hl 5 rfl) ?_
      refine lv_bipush (v := 41) hx hb dX8_waysOf_8 (by decide) ?_
      refine lv_icmp_ge (tgt := 76) hx hb dX8_waysOf_10 (by decide) (fun c3 => ?_) (fun c3 => ?_)
      · have hf := br_pos c3 hf
        refine lv_iload hx hb dX8_waysOf_76 (lv_at hl 4 rfl) ?_
        cases hf
        have hE : x4 = r0 := hF
        subst hE
        exact rtI hx hb hr hlk hP hD hS dX8_waysOf_78
      · have hf := br_neg c3 hf
        refine lv_iload hx hb dX8_waysOf_13 (lv_at hl 4 rfl) ?_
        refine lv_aload_n hx hb dX8_waysOf_15 rfl (lv_at hl 0 rfl) ?_
        refine va_get (D := D) (ci := 8) (v := .ref a_now) (C := RX8) (T := TX8) (N := 17) hx hb hts z1 hown hN.1 hP 0 rfl rfl 2 (by decide) z2 (fun _ h9 => h9) rfl dX8_waysOf_16 ?_
        refine lv_bipush (v := 41) hx hb dX8_waysOf_19 (by decide) ?_
        refine lv_iload_n hx hb dX8_waysOf_21 rfl (lv_at hl 1 rfl) ?_
        refine lv_imul hx hb dX8_waysOf_22 ?_
        refine lv_iload hx hb dX8_waysOf_23 (lv_at hl 5 rfl) ?_
        refine lv_iadd hx hb dX8_waysOf_25 ?_
        obtain ⟨c4, hf⟩ := gd_some hf
        refine va_zald hx hb hN.1 hP 1 3 rfl rfl (ix_in c4) dX8_waysOf_26 ?_
        refine lv_if_eq (tgt := 66) hx hb dX8_waysOf_27 (by decide) (fun c5 => ?_) (fun c5 => ?_)
        · have hf := br_pos c5 hf
          exact w66 x5 x4 _ H locs ls hf hF hP hD hS (lv_sub hl [0, 1, 2, 3, 5] rfl)
        · have hf := br_neg c5 hf
          refine lv_iload_n hx hb dX8_waysOf_30 rfl (lv_at hl 3 rfl) ?_
          refine lv_iload hx hb dX8_waysOf_31 (lv_at hl 5 rfl) ?_
          refine lv_isub hx hb dX8_waysOf_33 ?_
          refine lv_i2l hx hb dX8_waysOf_34 rfl ?_
          refine lv_lconst (v := 0) hx hb dX8_waysOf_35 (by decide) ?_
          refine lv_ldc2 (v := 40) hx hb hown z3 dX8_waysOf_36 ?_
          obtain ⟨u6, hu6, hf⟩ := bd_some hf
          refine caSI (rest := [.int x4]) (As := [.long ((x3 - x5).toInt64), .long (0 : Int64), .long (40 : Int64)]) (wr := [(a_this, .inr (8, [.int g_length, .ref a_text, .ref a_now, .ref a_before, .int g_undoMany, .ref a_read, .int g_spot, .ref a_first, .ref a_second, .ref a_sums, .ref a_other, .int g_step, .int g_coverMany, .ref a_grid, .ref a_order, .int g_leastSums, .int g_leastPart])), (a_now, .inl (cZ, 164, .inl g_now))]) (wo := [(a_this, .inr (8, [.int g_length, .ref a_text, .ref a_now, .ref a_before, .int g_undoMany, .ref a_read, .int g_spot, .ref a_first, .ref a_second, .ref a_sums, .ref a_other, .int g_step, .int g_coverMany, .ref a_grid, .ref a_order, .int g_leastSums, .int g_leastPart])), (a_now, .inl (cZ, 164, .inl g_now))]) ⟨hx, hb, hml, hown, hts⟩ hN hP hD hS hA (cX8_in_ct l D cI cL cC cZ ((x3 - x5).toInt64) (0 : Int64) (40 : Int64) u6 hu6) z4 [] [0, 1] [0, 1] rfl (by decide) rfl (by decide) (by decide) rfl (by decide) rfl hl.1 rfl (Nat.le_of_ble_eq_true rfl) dX8_waysOf_39 ⟨Nat.zero_le _, Nat.zero_le _⟩ (fun H locs hP hD hS => ?_)
          refine lv_if_eq (tgt := 66) hx hb dX8_waysOf_42 (by decide) (fun c7 => ?_) (fun c7 => ?_)
          · have hf := br_pos c7 hf
            exact w66 x5 x4 _ H locs ls hf hF hP hD hS (lv_sub hl [0, 1, 2, 3, 5] rfl)
          · have hf := br_neg c7 hf
            refine lv_aload_n hx hb dX8_waysOf_45 rfl (lv_at hl 0 rfl) ?_
            refine va_get (D := D) (ci := 8) (v := .ref a_now) (C := RX8) (T := TX8) (N := 17) hx hb hts z1 hown hN.1 hP 0 rfl rfl 2 (by decide) z2 (fun _ h9 => h9) rfl dX8_waysOf_46 ?_
            refine lv_bipush (v := 41) hx hb dX8_waysOf_49 (by decide) ?_
            refine lv_iload_n hx hb dX8_waysOf_51 rfl (lv_at hl 2 rfl) ?_
            refine lv_imul hx hb dX8_waysOf_52 ?_
            refine lv_iload_n hx hb dX8_waysOf_53 rfl (lv_at hl 3 rfl) ?_
            refine lv_iadd hx hb dX8_waysOf_54 ?_
            refine lv_iload hx hb dX8_waysOf_55 (lv_at hl 5 rfl) ?_
            refine lv_isub hx hb dX8_waysOf_57 ?_
            obtain ⟨c8, hf⟩ := gd_some hf
            refine va_zald hx hb hN.1 hP 1 3 rfl rfl (ix_in c8) dX8_waysOf_58 ?_
            refine lv_if_eq (tgt := 66) hx hb dX8_waysOf_59 (by decide) (fun c9 => ?_) (fun c9 => ?_)
            · have hf := br_pos c9 hf
              exact w66 x5 x4 _ H locs ls hf hF hP hD hS (lv_sub hl [0, 1, 2, 3, 5] rfl)
            · have hf := br_neg c9 hf
              refine lv_iconst (v := 1) hx hb dX8_waysOf_62 (by decide) ?_
              refine lv_goto (tgt := 67) hx hb dX8_waysOf_63 (by decide) ?_
              exact w67 x5 x4 (1 : Int32) _ H locs ls hf hF hP hD hS (lv_sub hl [0, 1, 2, 3, 5] rfl)
    intro x4 x5 t H locs ls hf hF hP hD hS hl
    exact ((congrFun eF6 _).mp (key ((x4, x5)) t hf hF)) H locs ls hP hD hS hl
  unfold fX8_waysOf at hf
  obtain ⟨H, eH⟩ : ∃ z, z = s.heap := ⟨_, rfl⟩
  obtain ⟨locs, eL⟩ : ∃ z : List Loc, z = [] := ⟨_, rfl⟩
  have hP : va_P D vwCl [(a_this, .inr (8, [.int g_length, .ref a_text, .ref a_now, .ref a_before, .int g_undoMany, .ref a_read, .int g_spot, .ref a_first, .ref a_second, .ref a_sums, .ref a_other, .int g_step, .int g_coverMany, .ref a_grid, .ref a_order, .int g_leastSums, .int g_leastPart])), (a_now, .inl (cZ, 164, .inl g_now))] H := by rw [eH]; exact hP
  have hS : va_S A s.heap H locs := by rw [eH, eL]; exact hS
  suffices hG : W p l e rmX8_waysOf s m ([.ref a_this, .int q1, .int q2, .int q3] : List Value).toArray below meth c H locs 0 0 (MQ below (cQi D r0 A [(a_this, .inr (8, [.int g_length, .ref a_text, .ref a_now, .ref a_before, .int g_undoMany, .ref a_read, .int g_spot, .ref a_first, .ref a_second, .ref a_sums, .ref a_other, .int g_step, .int g_coverMany, .ref a_grid, .ref a_order, .int g_leastSums, .int g_leastPart])), (a_now, .inl (cZ, 164, .inl g_now))]) ([.ref a_this, .int q1, .int q2, .int q3] : List Value).toArray s 0 0 A) (F0 m 0 ls []) by rw [eH, eL] at hG; exact hG
  refine lv_iconst (v := 0) hx hb dX8_waysOf_0 (by decide) ?_
  refine lv_istore (lv' := [(4, .int (0 : Int32)), (0, .ref a_this), (1, .int q1), (2, .int q2), (3, .int q3)]) hx hb dX8_waysOf_1 hl (by decide) rfl (fun ls hl => ?_)
  refine lv_iconst (v := 0) hx hb dX8_waysOf_3 (by decide) ?_
  refine lv_istore (lv' := [(5, .int (0 : Int32)), (4, .int (0 : Int32)), (0, .ref a_this), (1, .int q1), (2, .int q2), (3, .int q3)]) hx hb dX8_waysOf_4 hl (by decide) rfl (fun ls hl => ?_)
  exact w6 q1 q2 q3 g_now (0 : Int32) (0 : Int32) r0 H locs ls hf rfl hP hD hS (lv_sub hl [2, 3, 4, 5, 1, 0] rfl)
abbrev rmX8_ways : Room := { frames := 2, cells := 0, slots := 0, locals := 50 }
noncomputable def bX8_ways_36 (g_now : Nat → Int32) : Option (Int32) := some ((-1 : Int32))
noncomputable def fX8_ways (q1 : Int32) (q2 : Int32) (q3 : Int32) (g_now : Nat → Int32) : Option (Int32) := bd (fX8_isSlot q1) (fun u1 => br (u1 = 0) (bX8_ways_36 g_now) (bd (fX8_isSlot q2) (fun u3 => br (u3 = 0) (bX8_ways_36 g_now) (bd (fX8_in q3.toInt64 (0 : Int64) (80 : Int64)) (fun u5 => br (u5 = 0) (bX8_ways_36 g_now) (bd (fX8_waysOf q1 q2 q3 g_now) (fun u7 => some (u7))))))))
set_option maxHeartbeats 4000000 in
set_option maxRecDepth 100000 in
theorem cX8_ways_ct (l : Launch) (D : va_G) (cI cL cC cZ : ClassId) (a_this a_text a_now a_before a_read a_first a_second a_sums a_other a_grid a_order : Nat) (g_length : Int32) (g_undoMany : Int32) (g_spot : Int32) (g_step : Int32) (g_coverMany : Int32) (g_leastSums : Int32) (g_leastPart : Int32) (g_now : Nat → Int32) (q1 : Int32) (q2 : Int32) (q3 : Int32) (r0 : Int32) (hf : fX8_ways q1 q2 q3 g_now = some r0) : CtI l yX8_ways wsX8_ways rmX8_ways D (tyz cI cL cC cZ) [.ref a_this, .int q1, .int q2, .int q3] [(a_this, .inr (8, [.int g_length, .ref a_text, .ref a_now, .ref a_before, .int g_undoMany, .ref a_read, .int g_spot, .ref a_first, .ref a_second, .ref a_sums, .ref a_other, .int g_step, .int g_coverMany, .ref a_grid, .ref a_order, .int g_leastSums, .int g_leastPart])), (a_now, .inl (cZ, 164, .inl g_now))] [(a_this, .inr (8, [.int g_length, .ref a_text, .ref a_now, .ref a_before, .int g_undoMany, .ref a_read, .int g_spot, .ref a_first, .ref a_second, .ref a_sums, .ref a_other, .int g_step, .int g_coverMany, .ref a_grid, .ref a_order, .int g_leastSums, .int g_leastPart])), (a_now, .inl (cZ, 164, .inl g_now))] r0 := by
  refine CtI.make (cc := cX8_ways) (maxL := 4) (ty := .int) (by decide) rfl (Nat.le_of_ble_eq_true rfl) ?_
  intro p e s m below meth c A ls C0 hN hA hP hD hl
  obtain ⟨hx, hb, hr, hml, hown, hts, hlk⟩ := id C0
  have hown : s.vm.findClass RX8 = some m.cls := hown
  have hS : va_S A s.heap s.heap [] := va_S.rf
  have hP : va_P D vwCl [(a_this, .inr (8, [.int g_length, .ref a_text, .ref a_now, .ref a_before, .int g_undoMany, .ref a_read, .int g_spot, .ref a_first, .ref a_second, .ref a_sums, .ref a_other, .int g_step, .int g_coverMany, .ref a_grid, .ref a_order, .int g_leastSums, .int g_leastPart])), (a_now, .inl (cZ, 164, .inl g_now))] s.heap := hP
  have hD : va_D A [(a_this, .inr (8, [.int g_length, .ref a_text, .ref a_now, .ref a_before, .int g_undoMany, .ref a_read, .int g_spot, .ref a_first, .ref a_second, .ref a_sums, .ref a_other, .int g_step, .int g_coverMany, .ref a_grid, .ref a_order, .int g_leastSums, .int g_leastPart])), (a_now, .inl (cZ, 164, .inl g_now))] := hD
  have hl : lv_has ls 4 [(0, .ref a_this), (1, .int q1), (2, .int q2), (3, .int q3)] := hl
  have z1 := va_cwS (R := rmX8_ways) (rm := rmX8_isSlot) (mc := 0) (ms := 0) 1 hts gX8_ways_X8_isSlot rfl rfl rfl (by decide +kernel) ⟨Nat.le_of_ble_eq_true rfl, Nat.le_of_ble_eq_true rfl⟩
  have z2 := hts (.constantLong RX8 123 (80)) (by decide +kernel)
  have z3 := va_cwS (R := rmX8_ways) (rm := rmX8_in) (mc := 0) (ms := 0) 3 hts gX8_ways_X8_in rfl rfl rfl (by decide +kernel) ⟨Nat.le_of_ble_eq_true rfl, Nat.le_of_ble_eq_true rfl⟩
  have z4 := cwV (R := rmX8_ways) (rm := rmX8_waysOf) (mc := 0) (ms := 0) 3 hts gX8_ways_X8_waysOf rfl rfl rfl (by decide +kernel) ⟨Nat.le_of_ble_eq_true rfl, Nat.le_of_ble_eq_true rfl⟩
  have w36 : ∀ (g_now : Nat → Int32) (H : Heap) (locs : List Loc) (ls : Array Slot), bX8_ways_36 g_now = some r0 → va_P D vwCl [(a_this, .inr (8, [.int g_length, .ref a_text, .ref a_now, .ref a_before, .int g_undoMany, .ref a_read, .int g_spot, .ref a_first, .ref a_second, .ref a_sums, .ref a_other, .int g_step, .int g_coverMany, .ref a_grid, .ref a_order, .int g_leastSums, .int g_leastPart])), (a_now, .inl (cZ, 164, .inl g_now))] H → va_D A [(a_this, .inr (8, [.int g_length, .ref a_text, .ref a_now, .ref a_before, .int g_undoMany, .ref a_read, .int g_spot, .ref a_first, .ref a_second, .ref a_sums, .ref a_other, .int g_step, .int g_coverMany, .ref a_grid, .ref a_order, .int g_leastSums, .int g_leastPart])), (a_now, .inl (cZ, 164, .inl g_now))] → va_S A s.heap H locs → lv_has ls 4 [] → W p l e rmX8_ways s m ([.ref a_this, .int q1, .int q2, .int q3] : List Value).toArray below meth c H locs 0 0 (MQ below (cQi D r0 A [(a_this, .inr (8, [.int g_length, .ref a_text, .ref a_now, .ref a_before, .int g_undoMany, .ref a_read, .int g_spot, .ref a_first, .ref a_second, .ref a_sums, .ref a_other, .int g_step, .int g_coverMany, .ref a_grid, .ref a_order, .int g_leastSums, .int g_leastPart])), (a_now, .inl (cZ, 164, .inl g_now))]) ([.ref a_this, .int q1, .int q2, .int q3] : List Value).toArray s 0 0 A) (F0 m 36 ls []) := by
    intro g_now H locs ls hf hP hD hS hl
    unfold bX8_ways_36 at hf
    refine lv_iconst (v := -1) hx hb dX8_ways_36 (by decide) ?_
    have hE : (-1 : Int32) = r0 := Option.some.inj hf
    subst hE
    exact rtI hx hb hr hlk hP hD hS dX8_ways_37
  unfold fX8_ways at hf
  obtain ⟨H, eH⟩ : ∃ z, z = s.heap := ⟨_, rfl⟩
  obtain ⟨locs, eL⟩ : ∃ z : List Loc, z = [] := ⟨_, rfl⟩
  have hP : va_P D vwCl [(a_this, .inr (8, [.int g_length, .ref a_text, .ref a_now, .ref a_before, .int g_undoMany, .ref a_read, .int g_spot, .ref a_first, .ref a_second, .ref a_sums, .ref a_other, .int g_step, .int g_coverMany, .ref a_grid, .ref a_order, .int g_leastSums, .int g_leastPart])), (a_now, .inl (cZ, 164, .inl g_now))] H := by rw [eH]; exact hP
  have hS : va_S A s.heap H locs := by rw [eH, eL]; exact hS
  suffices hG : W p l e rmX8_ways s m ([.ref a_this, .int q1, .int q2, .int q3] : List Value).toArray below meth c H locs 0 0 (MQ below (cQi D r0 A [(a_this, .inr (8, [.int g_length, .ref a_text, .ref a_now, .ref a_before, .int g_undoMany, .ref a_read, .int g_spot, .ref a_first, .ref a_second, .ref a_sums, .ref a_other, .int g_step, .int g_coverMany, .ref a_grid, .ref a_order, .int g_leastSums, .int g_leastPart])), (a_now, .inl (cZ, 164, .inl g_now))]) ([.ref a_this, .int q1, .int q2, .int q3] : List Value).toArray s 0 0 A) (F0 m 0 ls []) by rw [eH, eL] at hG; exact hG
  refine lv_iload_n hx hb dX8_ways_0 rfl (lv_at hl 1 rfl) ?_
  obtain ⟨u1, hu1, hf⟩ := bd_some hf
  refine caSI (rest := []) (As := [.int q1]) (wr := [(a_this, .inr (8, [.int g_length, .ref a_text, .ref a_now, .ref a_before, .int g_undoMany, .ref a_read, .int g_spot, .ref a_first, .ref a_second, .ref a_sums, .ref a_other, .int g_step, .int g_coverMany, .ref a_grid, .ref a_order, .int g_leastSums, .int g_leastPart])), (a_now, .inl (cZ, 164, .inl g_now))]) (wo := [(a_this, .inr (8, [.int g_length, .ref a_text, .ref a_now, .ref a_before, .int g_undoMany, .ref a_read, .int g_spot, .ref a_first, .ref a_second, .ref a_sums, .ref a_other, .int g_step, .int g_coverMany, .ref a_grid, .ref a_order, .int g_leastSums, .int g_leastPart])), (a_now, .inl (cZ, 164, .inl g_now))]) ⟨hx, hb, hml, hown, hts⟩ hN hP hD hS hA (cX8_isSlot_ct l D cI cL cC cZ q1 u1 hu1) z1 [] [0, 1] [0, 1] rfl (by decide) rfl (by decide) (by decide) rfl (by decide) rfl hl.1 rfl (Nat.le_of_ble_eq_true rfl) dX8_ways_1 ⟨Nat.zero_le _, Nat.zero_le _⟩ (fun H locs hP hD hS => ?_)
  refine lv_if_eq (tgt := 36) hx hb dX8_ways_4 (by decide) (fun c2 => ?_) (fun c2 => ?_)
  · have hf := br_pos c2 hf
    exact w36 g_now H locs ls hf hP hD hS (lv_sub hl [] rfl)
  · have hf := br_neg c2 hf
    refine lv_iload_n hx hb dX8_ways_7 rfl (lv_at hl 2 rfl) ?_
    obtain ⟨u3, hu3, hf⟩ := bd_some hf
    refine caSI (rest := []) (As := [.int q2]) (wr := [(a_this, .inr (8, [.int g_length, .ref a_text, .ref a_now, .ref a_before, .int g_undoMany, .ref a_read, .int g_spot, .ref a_first, .ref a_second, .ref a_sums, .ref a_other, .int g_step, .int g_coverMany, .ref a_grid, .ref a_order, .int g_leastSums, .int g_leastPart])), (a_now, .inl (cZ, 164, .inl g_now))]) (wo := [(a_this, .inr (8, [.int g_length, .ref a_text, .ref a_now, .ref a_before, .int g_undoMany, .ref a_read, .int g_spot, .ref a_first, .ref a_second, .ref a_sums, .ref a_other, .int g_step, .int g_coverMany, .ref a_grid, .ref a_order, .int g_leastSums, .int g_leastPart])), (a_now, .inl (cZ, 164, .inl g_now))]) ⟨hx, hb, hml, hown, hts⟩ hN hP hD hS hA (cX8_isSlot_ct l D cI cL cC cZ q2 u3 hu3) z1 [] [0, 1] [0, 1] rfl (by decide) rfl (by decide) (by decide) rfl (by decide) rfl hl.1 rfl (Nat.le_of_ble_eq_true rfl) dX8_ways_8 ⟨Nat.zero_le _, Nat.zero_le _⟩ (fun H locs hP hD hS => ?_)
    refine lv_if_eq (tgt := 36) hx hb dX8_ways_11 (by decide) (fun c4 => ?_) (fun c4 => ?_)
    · have hf := br_pos c4 hf
      exact w36 g_now H locs ls hf hP hD hS (lv_sub hl [] rfl)
    · have hf := br_neg c4 hf
      refine lv_iload_n hx hb dX8_ways_14 rfl (lv_at hl 3 rfl) ?_
      refine lv_i2l hx hb dX8_ways_15 rfl ?_
      refine lv_lconst (v := 0) hx hb dX8_ways_16 (by decide) ?_
      refine lv_ldc2 (v := 80) hx hb hown z2 dX8_ways_17 ?_
      obtain ⟨u5, hu5, hf⟩ := bd_some hf
      refine caSI (rest := []) (As := [.long q3.toInt64, .long (0 : Int64), .long (80 : Int64)]) (wr := [(a_this, .inr (8, [.int g_length, .ref a_text, .ref a_now, .ref a_before, .int g_undoMany, .ref a_read, .int g_spot, .ref a_first, .ref a_second, .ref a_sums, .ref a_other, .int g_step, .int g_coverMany, .ref a_grid, .ref a_order, .int g_leastSums, .int g_leastPart])), (a_now, .inl (cZ, 164, .inl g_now))]) (wo := [(a_this, .inr (8, [.int g_length, .ref a_text, .ref a_now, .ref a_before, .int g_undoMany, .ref a_read, .int g_spot, .ref a_first, .ref a_second, .ref a_sums, .ref a_other, .int g_step, .int g_coverMany, .ref a_grid, .ref a_order, .int g_leastSums, .int g_leastPart])), (a_now, .inl (cZ, 164, .inl g_now))]) ⟨hx, hb, hml, hown, hts⟩ hN hP hD hS hA (cX8_in_ct l D cI cL cC cZ q3.toInt64 (0 : Int64) (80 : Int64) u5 hu5) z3 [] [0, 1] [0, 1] rfl (by decide) rfl (by decide) (by decide) rfl (by decide) rfl hl.1 rfl (Nat.le_of_ble_eq_true rfl) dX8_ways_20 ⟨Nat.zero_le _, Nat.zero_le _⟩ (fun H locs hP hD hS => ?_)
      refine lv_if_eq (tgt := 36) hx hb dX8_ways_23 (by decide) (fun c6 => ?_) (fun c6 => ?_)
      · have hf := br_pos c6 hf
        exact w36 g_now H locs ls hf hP hD hS (lv_sub hl [] rfl)
      · have hf := br_neg c6 hf
        refine lv_aload_n hx hb dX8_ways_26 rfl (lv_at hl 0 rfl) ?_
        refine lv_iload_n hx hb dX8_ways_27 rfl (lv_at hl 1 rfl) ?_
        refine lv_iload_n hx hb dX8_ways_28 rfl (lv_at hl 2 rfl) ?_
        refine lv_iload_n hx hb dX8_ways_29 rfl (lv_at hl 3 rfl) ?_
        obtain ⟨u7, hu7, hf⟩ := bd_some hf
        refine caVI (rest := []) (As := [.int q1, .int q2, .int q3]) (wr := []) (wo := [(a_this, .inr (8, [.int g_length, .ref a_text, .ref a_now, .ref a_before, .int g_undoMany, .ref a_read, .int g_spot, .ref a_first, .ref a_second, .ref a_sums, .ref a_other, .int g_step, .int g_coverMany, .ref a_grid, .ref a_order, .int g_leastSums, .int g_leastPart])), (a_now, .inl (cZ, 164, .inl g_now))]) ⟨hx, hb, hml, hown, hts⟩ hN hP hD hS hA (cX8_waysOf_ct l D cI cL cC cZ a_this a_text a_now a_before a_read a_first a_second a_sums a_other a_grid a_order g_length g_undoMany g_spot g_step g_coverMany g_leastSums g_leastPart g_now q1 q2 q3 u7 hu7) z4 0 8 rfl rfl [0, 1] [] [0, 1] rfl (by decide) rfl (by decide) (by decide) rfl (by decide) rfl hl.1 rfl (Nat.le_of_ble_eq_true rfl) dX8_ways_30 ⟨Nat.zero_le _, Nat.zero_le _⟩ (fun H locs hP hD hS => ?_)
        refine lv_goto (tgt := 37) hx hb dX8_ways_33 (by decide) ?_
        have hE : u7 = r0 := Option.some.inj hf
        subst hE
        exact rtI hx hb hr hlk hP hD hS dX8_ways_37
abbrev rmX8_energy : Room := { frames := 2, cells := 0, slots := 0, locals := 50 }
noncomputable def bX8_energy_13 (x1 : Int32) (g_now : Nat → Int32) (x2 : Int32) (x3 : Int32) : Option ((Int32 × Int32) ⊕ (Int32)) := br ((80 : Int32) < x3) (some (Sum.inr (x2))) (bd (fX8_waysOf x1 x1 x3 g_now) (fun u2 => lt_ (x2 + (u2 * u2)) (fun y3 => lt_ (x3 + (1 : Int32)) (fun y4 => some (Sum.inl ((y3, y4)))))))
noncomputable def sX8_energy_13 (x1 : Int32) (g_now : Nat → Int32) : (Int32 × Int32) → Option ((Int32 × Int32) ⊕ (Int32)) := fun q => bX8_energy_13 x1 g_now q.1 q.2
noncomputable def fX8_energy (q1 : Int32) (g_now : Nat → Int32) : Option (Int32) := bd (fX8_isSlot q1) (fun u5 => br (u5 = 0) (some ((-1 : Int32))) (run (sX8_energy_13 q1 g_now) (((0 : Int32), (0 : Int32)))))
set_option maxHeartbeats 4000000 in
set_option maxRecDepth 100000 in
theorem cX8_energy_ct (l : Launch) (D : va_G) (cI cL cC cZ : ClassId) (a_this a_text a_now a_before a_read a_first a_second a_sums a_other a_grid a_order : Nat) (g_length : Int32) (g_undoMany : Int32) (g_spot : Int32) (g_step : Int32) (g_coverMany : Int32) (g_leastSums : Int32) (g_leastPart : Int32) (g_now : Nat → Int32) (q1 : Int32) (r0 : Int32) (hf : fX8_energy q1 g_now = some r0) : CtI l yX8_energy wsX8_energy rmX8_energy D (tyz cI cL cC cZ) [.ref a_this, .int q1] [(a_this, .inr (8, [.int g_length, .ref a_text, .ref a_now, .ref a_before, .int g_undoMany, .ref a_read, .int g_spot, .ref a_first, .ref a_second, .ref a_sums, .ref a_other, .int g_step, .int g_coverMany, .ref a_grid, .ref a_order, .int g_leastSums, .int g_leastPart])), (a_now, .inl (cZ, 164, .inl g_now))] [(a_this, .inr (8, [.int g_length, .ref a_text, .ref a_now, .ref a_before, .int g_undoMany, .ref a_read, .int g_spot, .ref a_first, .ref a_second, .ref a_sums, .ref a_other, .int g_step, .int g_coverMany, .ref a_grid, .ref a_order, .int g_leastSums, .int g_leastPart])), (a_now, .inl (cZ, 164, .inl g_now))] r0 := by
  refine CtI.make (cc := cX8_energy) (maxL := 5) (ty := .int) (by decide) rfl (Nat.le_of_ble_eq_true rfl) ?_
  intro p e s m below meth c A ls C0 hN hA hP hD hl
  obtain ⟨hx, hb, hr, hml, hown, hts, hlk⟩ := id C0
  have hown : s.vm.findClass RX8 = some m.cls := hown
  have hS : va_S A s.heap s.heap [] := va_S.rf
  have hP : va_P D vwCl [(a_this, .inr (8, [.int g_length, .ref a_text, .ref a_now, .ref a_before, .int g_undoMany, .ref a_read, .int g_spot, .ref a_first, .ref a_second, .ref a_sums, .ref a_other, .int g_step, .int g_coverMany, .ref a_grid, .ref a_order, .int g_leastSums, .int g_leastPart])), (a_now, .inl (cZ, 164, .inl g_now))] s.heap := hP
  have hD : va_D A [(a_this, .inr (8, [.int g_length, .ref a_text, .ref a_now, .ref a_before, .int g_undoMany, .ref a_read, .int g_spot, .ref a_first, .ref a_second, .ref a_sums, .ref a_other, .int g_step, .int g_coverMany, .ref a_grid, .ref a_order, .int g_leastSums, .int g_leastPart])), (a_now, .inl (cZ, 164, .inl g_now))] := hD
  have hl : lv_has ls 5 [(0, .ref a_this), (1, .int q1)] := hl
  have z1 := cwV (R := rmX8_energy) (rm := rmX8_waysOf) (mc := 0) (ms := 0) 3 hts gX8_energy_X8_waysOf rfl rfl rfl (by decide +kernel) ⟨Nat.le_of_ble_eq_true rfl, Nat.le_of_ble_eq_true rfl⟩
  have z2 := va_cwS (R := rmX8_energy) (rm := rmX8_isSlot) (mc := 0) (ms := 0) 1 hts gX8_energy_X8_isSlot rfl rfl rfl (by decide +kernel) ⟨Nat.le_of_ble_eq_true rfl, Nat.le_of_ble_eq_true rfl⟩
  have w13 : ∀ (x1 : Int32) (g_now : Nat → Int32) (x2 : Int32) (x3 : Int32) (t : Int32) (H : Heap) (locs : List Loc) (ls : Array Slot), run (sX8_energy_13 x1 g_now) ((x2, x3)) = some t → (fun z => z = r0) t → va_P D vwCl [(a_this, .inr (8, [.int g_length, .ref a_text, .ref a_now, .ref a_before, .int g_undoMany, .ref a_read, .int g_spot, .ref a_first, .ref a_second, .ref a_sums, .ref a_other, .int g_step, .int g_coverMany, .ref a_grid, .ref a_order, .int g_leastSums, .int g_leastPart])), (a_now, .inl (cZ, 164, .inl g_now))] H → va_D A [(a_this, .inr (8, [.int g_length, .ref a_text, .ref a_now, .ref a_before, .int g_undoMany, .ref a_read, .int g_spot, .ref a_first, .ref a_second, .ref a_sums, .ref a_other, .int g_step, .int g_coverMany, .ref a_grid, .ref a_order, .int g_leastSums, .int g_leastPart])), (a_now, .inl (cZ, 164, .inl g_now))] → va_S A s.heap H locs → lv_has ls 5 [(0, .ref a_this), (1, .int x1), (2, .int x2), (3, .int x3)] → W p l e rmX8_energy s m ([.ref a_this, .int q1] : List Value).toArray below meth c H locs 0 0 (MQ below (cQi D r0 A [(a_this, .inr (8, [.int g_length, .ref a_text, .ref a_now, .ref a_before, .int g_undoMany, .ref a_read, .int g_spot, .ref a_first, .ref a_second, .ref a_sums, .ref a_other, .int g_step, .int g_coverMany, .ref a_grid, .ref a_order, .int g_leastSums, .int g_leastPart])), (a_now, .inl (cZ, 164, .inl g_now))]) ([.ref a_this, .int q1] : List Value).toArray s 0 0 A) (F0 m 13 ls []) := by
    intro x1 g_now
    obtain ⟨F13, eF13⟩ : ∃ F : (Int32 × Int32) → Prop, F = fun q => ∀ (H : Heap) (locs : List Loc) (ls : Array Slot), va_P D vwCl [(a_this, .inr (8, [.int g_length, .ref a_text, .ref a_now, .ref a_before, .int g_undoMany, .ref a_read, .int g_spot, .ref a_first, .ref a_second, .ref a_sums, .ref a_other, .int g_step, .int g_coverMany, .ref a_grid, .ref a_order, .int g_leastSums, .int g_leastPart])), (a_now, .inl (cZ, 164, .inl g_now))] H → va_D A [(a_this, .inr (8, [.int g_length, .ref a_text, .ref a_now, .ref a_before, .int g_undoMany, .ref a_read, .int g_spot, .ref a_first, .ref a_second, .ref a_sums, .ref a_other, .int g_step, .int g_coverMany, .ref a_grid, .ref a_order, .int g_leastSums, .int g_leastPart])), (a_now, .inl (cZ, 164, .inl g_now))] → va_S A s.heap H locs → lv_has ls 5 [(0, .ref a_this), (1, .int x1), (2, .int q.1), (3, .int q.2)] → W p l e rmX8_energy s m ([.ref a_this, .int q1] : List Value).toArray below meth c H locs 0 0 (MQ below (cQi D r0 A [(a_this, .inr (8, [.int g_length, .ref a_text, .ref a_now, .ref a_before, .int g_undoMany, .ref a_read, .int g_spot, .ref a_first, .ref a_second, .ref a_sums, .ref a_other, .int g_step, .int g_coverMany, .ref a_grid, .ref a_order, .int g_leastSums, .int g_leastPart])), (a_now, .inl (cZ, 164, .inl g_now))]) ([.ref a_this, .int q1] : List Value).toArray s 0 0 A) (F0 m 13 ls []) := ⟨_, rfl⟩
    have key : ∀ (q : Int32 × Int32) (t : Int32), run (sX8_energy_13 x1 g_now) q = some t → (fun z => z = r0) t → F13 q := by
      refine loop_rule (sX8_energy_13 x1 g_now) F13 (fun z => z = r0) ?_
      intro q t hf hF
      have hF : (Sum.elim F13 (fun z => z = r0)) t := hF
      rw [eF13]
      obtain ⟨x2, x3⟩ := q
      intro H locs ls hP hD hS hl
      have hP : va_P D vwCl [(a_this, .inr (8, [.int g_length, .ref a_text, .ref a_now, .ref a_before, .int g_undoMany, .ref a_read, .int g_spot, .ref a_first, .ref a_second, .ref a_sums, .ref a_other, .int g_step, .int g_coverMany, .ref a_grid, .ref a_order, .int g_leastSums, .int g_leastPart])), (a_now, .inl (cZ, 164, .inl g_now))] H := hP
      have hD : va_D A [(a_this, .inr (8, [.int g_length, .ref a_text, .ref a_now, .ref a_before, .int g_undoMany, .ref a_read, .int g_spot, .ref a_first, .ref a_second, .ref a_sums, .ref a_other, .int g_step, .int g_coverMany, .ref a_grid, .ref a_order, .int g_leastSums, .int g_leastPart])), (a_now, .inl (cZ, 164, .inl g_now))] := hD
      have hl : lv_has ls 5 [(0, .ref a_this), (1, .int x1), (2, .int x2), (3, .int x3)] := hl
      have hf : bX8_energy_13 x1 g_now x2 x3 = some t := hf
      unfold bX8_energy_13 at hf
      refine lv_iload_n hx hb dX8_energy_13 rfl (lv_at hl 3 rfl) ?_
      refine lv_bipush (v := 80) hx hb dX8_energy_14 (by decide) ?_
      refine lv_icmp_gt (tgt := 42) hx hb dX8_energy_16 (by decide) (fun c1 => ?_) (fun c1 => ?_)
      · have hf := br_pos c1 hf
        refine lv_iload_n hx hb dX8_energy_42 rfl (lv_at hl 2 rfl) ?_
        cases hf
        have hE : x2 = r0 := hF
        subst hE
        exact rtI hx hb hr hlk hP hD hS dX8_energy_43
      · have hf := br_neg c1 hf
        refine lv_aload_n hx hb dX8_energy_19 rfl (lv_at hl 0 rfl) ?_
        refine lv_iload_n hx hb dX8_energy_20 rfl (lv_at hl 1 rfl) ?_
        refine lv_iload_n hx hb dX8_energy_21 rfl (lv_at hl 1 rfl) ?_
        refine lv_iload_n hx hb dX8_energy_22 rfl (lv_at hl 3 rfl) ?_
        obtain ⟨u2, hu2, hf⟩ := bd_some hf
        refine caVI (rest := []) (As := [.int x1, .int x1, .int x3]) (wr := []) (wo := [(a_this, .inr (8, [.int g_length, .ref a_text, .ref a_now, .ref a_before, .int g_undoMany, .ref a_read, .int g_spot, .ref a_first, .ref a_second, .ref a_sums, .ref a_other, .int g_step, .int g_coverMany, .ref a_grid, .ref a_order, .int g_leastSums, .int g_leastPart])), (a_now, .inl (cZ, 164, .inl g_now))]) ⟨hx, hb, hml, hown, hts⟩ hN hP hD hS hA (cX8_waysOf_ct l D cI cL cC cZ a_this a_text a_now a_before a_read a_first a_second a_sums a_other a_grid a_order g_length g_undoMany g_spot g_step g_coverMany g_leastSums g_leastPart g_now x1 x1 x3 u2 hu2) z1 0 8 rfl rfl [0, 1] [] [0, 1] rfl (by decide) rfl (by decide) (by decide) rfl (by decide) rfl hl.1 rfl (Nat.le_of_ble_eq_true rfl) dX8_energy_23 ⟨Nat.zero_le _, Nat.zero_le _⟩ (fun H locs hP hD hS => ?_)
        refine lv_istore (lv' := [(4, .int u2), (0, .ref a_this), (1, .int x1), (2, .int x2), (3, .int x3)]) hx hb dX8_energy_26 hl (by decide) rfl (fun ls hl => ?_)
        refine lv_iload_n hx hb dX8_energy_28 rfl (lv_at hl 3 rfl) ?_
        refine lv_iload hx hb dX8_energy_29 (lv_at hl 0 rfl) ?_
        refine lv_iload hx hb dX8_energy_31 (lv_at hl 0 rfl) ?_
        refine lv_imul hx hb dX8_energy_33 ?_
        refine lv_iadd hx hb dX8_energy_34 ?_
        refine lv_topi (fun y3 ey3 => ?_)
        have hf := lt_some hf y3 ey3
        refine lv_istore_n (lv' := [(2, .int y3), (4, .int u2), (0, .ref a_this), (1, .int x1), (3, .int x3)]) hx hb dX8_energy_35 rfl hl (by decide) rfl (fun ls hl => ?_)
        obtain ⟨y4, ey4⟩ : ∃ z : Int32, z = x3 + (1 : Int32) := ⟨_, rfl⟩
        have hf := lt_some hf y4 ey4
        refine lv_iinc (v := y4) (lv' := [(3, .int y4), (2, .int y3), (4, .int u2), (0, .ref a_this), (1, .int x1)]) hx hb dX8_energy_36 hl (k := 4) rfl (by rw [ey4]; rfl) (by decide) rfl (fun ls hl => ?_)
        refine lv_goto (tgt := 13) hx hb dX8_energy_39 (by decide) ?_
        cases hf
        exact ((congrFun eF13 _).mp hF) H locs ls hP hD hS (lv_sub hl [3, 4, 1, 0] rfl)
    intro x2 x3 t H locs ls hf hF hP hD hS hl
    exact ((congrFun eF13 _).mp (key ((x2, x3)) t hf hF)) H locs ls hP hD hS hl
  unfold fX8_energy at hf
  obtain ⟨H, eH⟩ : ∃ z, z = s.heap := ⟨_, rfl⟩
  obtain ⟨locs, eL⟩ : ∃ z : List Loc, z = [] := ⟨_, rfl⟩
  have hP : va_P D vwCl [(a_this, .inr (8, [.int g_length, .ref a_text, .ref a_now, .ref a_before, .int g_undoMany, .ref a_read, .int g_spot, .ref a_first, .ref a_second, .ref a_sums, .ref a_other, .int g_step, .int g_coverMany, .ref a_grid, .ref a_order, .int g_leastSums, .int g_leastPart])), (a_now, .inl (cZ, 164, .inl g_now))] H := by rw [eH]; exact hP
  have hS : va_S A s.heap H locs := by rw [eH, eL]; exact hS
  suffices hG : W p l e rmX8_energy s m ([.ref a_this, .int q1] : List Value).toArray below meth c H locs 0 0 (MQ below (cQi D r0 A [(a_this, .inr (8, [.int g_length, .ref a_text, .ref a_now, .ref a_before, .int g_undoMany, .ref a_read, .int g_spot, .ref a_first, .ref a_second, .ref a_sums, .ref a_other, .int g_step, .int g_coverMany, .ref a_grid, .ref a_order, .int g_leastSums, .int g_leastPart])), (a_now, .inl (cZ, 164, .inl g_now))]) ([.ref a_this, .int q1] : List Value).toArray s 0 0 A) (F0 m 0 ls []) by rw [eH, eL] at hG; exact hG
  refine lv_iload_n hx hb dX8_energy_0 rfl (lv_at hl 1 rfl) ?_
  obtain ⟨u5, hu5, hf⟩ := bd_some hf
  refine caSI (rest := []) (As := [.int q1]) (wr := [(a_this, .inr (8, [.int g_length, .ref a_text, .ref a_now, .ref a_before, .int g_undoMany, .ref a_read, .int g_spot, .ref a_first, .ref a_second, .ref a_sums, .ref a_other, .int g_step, .int g_coverMany, .ref a_grid, .ref a_order, .int g_leastSums, .int g_leastPart])), (a_now, .inl (cZ, 164, .inl g_now))]) (wo := [(a_this, .inr (8, [.int g_length, .ref a_text, .ref a_now, .ref a_before, .int g_undoMany, .ref a_read, .int g_spot, .ref a_first, .ref a_second, .ref a_sums, .ref a_other, .int g_step, .int g_coverMany, .ref a_grid, .ref a_order, .int g_leastSums, .int g_leastPart])), (a_now, .inl (cZ, 164, .inl g_now))]) ⟨hx, hb, hml, hown, hts⟩ hN hP hD hS hA (cX8_isSlot_ct l D cI cL cC cZ q1 u5 hu5) z2 [] [0, 1] [0, 1] rfl (by decide) rfl (by decide) (by decide) rfl (by decide) rfl hl.1 rfl (Nat.le_of_ble_eq_true rfl) dX8_energy_1 ⟨Nat.zero_le _, Nat.zero_le _⟩ (fun H locs hP hD hS => ?_)
  refine lv_if_ne (tgt := 9) hx hb dX8_energy_4 (by decide) (fun c6 => ?_) (fun c6 => ?_)
  · have hf := br_neg c6 hf
    refine lv_iconst (v := 0) hx hb dX8_energy_9 (by decide) ?_
    refine lv_istore_n (lv' := [(2, .int (0 : Int32)), (0, .ref a_this), (1, .int q1)]) hx hb dX8_energy_10 rfl hl (by decide) rfl (fun ls hl => ?_)
    refine lv_iconst (v := 0) hx hb dX8_energy_11 (by decide) ?_
    refine lv_istore_n (lv' := [(3, .int (0 : Int32)), (2, .int (0 : Int32)), (0, .ref a_this), (1, .int q1)]) hx hb dX8_energy_12 rfl hl (by decide) rfl (fun ls hl => ?_)
    exact w13 q1 g_now (0 : Int32) (0 : Int32) r0 H locs ls hf rfl hP hD hS (lv_sub hl [2, 3, 1, 0] rfl)
  · have hf := br_pos c6 hf
    refine lv_iconst (v := -1) hx hb dX8_energy_7 (by decide) ?_
    have hE : (-1 : Int32) = r0 := Option.some.inj hf
    subst hE
    exact rtI hx hb hr hlk hP hD hS dX8_energy_8
abbrev rmX8_common : Room := { frames := 0, cells := 0, slots := 0, locals := 0 }
noncomputable def bX8_common_4 (x2 : Int32) (x3 : Int32) : Option ((Int32 × Int32) ⊕ (Int32)) := br (x3 ≤ 0) (some (Sum.inr (x2))) (gd (¬ x3 = 0) (lt_ (x2 - x2 / x3 * x3) (fun y3 => some (Sum.inl ((x3, y3))))))
noncomputable def sX8_common_4 : (Int32 × Int32) → Option ((Int32 × Int32) ⊕ (Int32)) := fun q => bX8_common_4 q.1 q.2
noncomputable def fX8_common (q0 : Int32) (q1 : Int32) : Option (Int32) := run (sX8_common_4) ((q0, q1))
set_option maxHeartbeats 4000000 in
set_option maxRecDepth 100000 in
theorem cX8_common_ct (l : Launch) (D : va_G) (cI cL cC cZ : ClassId) (q0 : Int32) (q1 : Int32) (r0 : Int32) (hf : fX8_common q0 q1 = some r0) : CtI l yX8_common wsX8_common rmX8_common D (tyz cI cL cC cZ) [.int q0, .int q1] [] [] r0 := by
  refine CtI.make (cc := cX8_common) (maxL := 5) (ty := .int) (by decide) rfl (Nat.le_of_ble_eq_true rfl) ?_
  intro p e s m below meth c A ls C0 hN hA hP hD hl
  obtain ⟨hx, hb, hr, hml, hown, hts, hlk⟩ := id C0
  have hown : s.vm.findClass RX8 = some m.cls := hown
  have hS : va_S A s.heap s.heap [] := va_S.rf
  have hP : va_P D vwCl [] s.heap := hP
  have hD : va_D A [] := hD
  have hl : lv_has ls 5 [(0, .int q0), (1, .int q1)] := hl
  have w4 : ∀ (x2 : Int32) (x3 : Int32) (t : Int32) (H : Heap) (locs : List Loc) (ls : Array Slot), run (sX8_common_4) ((x2, x3)) = some t → (fun z => z = r0) t → va_P D vwCl [] H → va_D A [] → va_S A s.heap H locs → lv_has ls 5 [(2, .int x2), (3, .int x3)] → W p l e rmX8_common s m ([.int q0, .int q1] : List Value).toArray below meth c H locs 0 0 (MQ below (cQi D r0 A []) ([.int q0, .int q1] : List Value).toArray s 0 0 A) (F0 m 4 ls []) := by
    obtain ⟨F4, eF4⟩ : ∃ F : (Int32 × Int32) → Prop, F = fun q => ∀ (H : Heap) (locs : List Loc) (ls : Array Slot), va_P D vwCl [] H → va_D A [] → va_S A s.heap H locs → lv_has ls 5 [(2, .int q.1), (3, .int q.2)] → W p l e rmX8_common s m ([.int q0, .int q1] : List Value).toArray below meth c H locs 0 0 (MQ below (cQi D r0 A []) ([.int q0, .int q1] : List Value).toArray s 0 0 A) (F0 m 4 ls []) := ⟨_, rfl⟩
    have key : ∀ (q : Int32 × Int32) (t : Int32), run (sX8_common_4) q = some t → (fun z => z = r0) t → F4 q := by
      refine loop_rule (sX8_common_4) F4 (fun z => z = r0) ?_
      intro q t hf hF
      have hF : (Sum.elim F4 (fun z => z = r0)) t := hF
      rw [eF4]
      obtain ⟨x2, x3⟩ := q
      intro H locs ls hP hD hS hl
      have hP : va_P D vwCl [] H := hP
      have hD : va_D A [] := hD
      have hl : lv_has ls 5 [(2, .int x2), (3, .int x3)] := hl
      have hf : bX8_common_4 x2 x3 = some t := hf
      unfold bX8_common_4 at hf
      refine lv_iload_n hx hb dX8_common_4 rfl (lv_at hl 1 rfl) ?_
      refine lv_if_le (tgt := 21) hx hb dX8_common_5 (by decide) (fun c1 => ?_) (fun c1 => ?_)
      · have hf := br_pos c1 hf
        refine lv_iload_n hx hb dX8_common_21 rfl (lv_at hl 0 rfl) ?_
        cases hf
        have hE : x2 = r0 := hF
        subst hE
        exact rtI hx hb hr hlk hP hD hS dX8_common_22
      · have hf := br_neg c1 hf
        refine lv_iload_n hx hb dX8_common_8 rfl (lv_at hl 0 rfl) ?_
        refine lv_iload_n hx hb dX8_common_9 rfl (lv_at hl 1 rfl) ?_
        obtain ⟨c2, hf⟩ := gd_some hf
        refine lv_irem hx hb dX8_common_10 c2 ?_
        refine lv_topi (fun y3 ey3 => ?_)
        have hf := lt_some hf y3 ey3
        refine lv_istore (lv' := [(4, .int y3), (2, .int x2), (3, .int x3)]) hx hb dX8_common_11 hl (by decide) rfl (fun ls hl => ?_)
        refine lv_iload_n hx hb dX8_common_13 rfl (lv_at hl 2 rfl) ?_
        refine lv_istore_n (lv' := [(2, .int x3), (4, .int y3), (3, .int x3)]) hx hb dX8_common_14 rfl hl (by decide) rfl (fun ls hl => ?_)
        refine lv_iload hx hb dX8_common_15 (lv_at hl 1 rfl) ?_
        refine lv_istore_n (lv' := [(3, .int y3), (2, .int x3), (4, .int y3)]) hx hb dX8_common_17 rfl hl (by decide) rfl (fun ls hl => ?_)
        refine lv_goto (tgt := 4) hx hb dX8_common_18 (by decide) ?_
        cases hf
        exact ((congrFun eF4 _).mp hF) H locs ls hP hD hS (lv_sub hl [1, 0] rfl)
    intro x2 x3 t H locs ls hf hF hP hD hS hl
    exact ((congrFun eF4 _).mp (key ((x2, x3)) t hf hF)) H locs ls hP hD hS hl
  unfold fX8_common at hf
  obtain ⟨H, eH⟩ : ∃ z, z = s.heap := ⟨_, rfl⟩
  obtain ⟨locs, eL⟩ : ∃ z : List Loc, z = [] := ⟨_, rfl⟩
  have hP : va_P D vwCl [] H := by rw [eH]; exact hP
  have hS : va_S A s.heap H locs := by rw [eH, eL]; exact hS
  suffices hG : W p l e rmX8_common s m ([.int q0, .int q1] : List Value).toArray below meth c H locs 0 0 (MQ below (cQi D r0 A []) ([.int q0, .int q1] : List Value).toArray s 0 0 A) (F0 m 0 ls []) by rw [eH, eL] at hG; exact hG
  refine lv_iload_n hx hb dX8_common_0 rfl (lv_at hl 0 rfl) ?_
  refine lv_istore_n (lv' := [(2, .int q0), (0, .int q0), (1, .int q1)]) hx hb dX8_common_1 rfl hl (by decide) rfl (fun ls hl => ?_)
  refine lv_iload_n hx hb dX8_common_2 rfl (lv_at hl 2 rfl) ?_
  refine lv_istore_n (lv' := [(3, .int q1), (2, .int q0), (0, .int q0), (1, .int q1)]) hx hb dX8_common_3 rfl hl (by decide) rfl (fun ls hl => ?_)
  exact w4 q0 q1 r0 H locs ls hf rfl hP hD hS (lv_sub hl [1, 0] rfl)
abbrev rmX8_findCover : Room := { frames := 1, cells := 0, slots := 0, locals := 24 }
noncomputable def bX8_findCover_76 (k1 : Int32) (g_step : Int32) (g_coverMany : Int32) (g_first : Nat → Int32) : Option (Int32 × Int32) := br (g_step = 0) (some (((1 : Int32), k1))) (some ((g_step, k1)))
noncomputable def bX8_findCover_7 (x1 : Int32) (g_coverMany : Int32) (g_first : Nat → Int32) (x2 : Int32) (g_step : Int32) : Option ((Int32 × Int32) ⊕ (Int32 × Int32)) := br (x1 ≤ x2) (br (g_step = 0) (ml (bX8_findCover_76 (1 : Int32) g_step g_coverMany g_first)) (gd (¬ (x1 - (1 : Int32)) < 0 ∧ (x1 - (1 : Int32)).toNatClampNeg < 41) (gd (¬ (0 : Int32) < 0 ∧ (0 : Int32).toNatClampNeg < 41) (gd (¬ g_step = 0) (lt_ (((g_first (x1 - (1 : Int32)).toNatClampNeg) - (g_first (0 : Int32).toNatClampNeg)) / g_step) (fun y7 => ml (bX8_findCover_76 (y7 + (1 : Int32)) g_step g_coverMany g_first))))))) (gd (¬ x2 < 0 ∧ x2.toNatClampNeg < 41) (gd (¬ (0 : Int32) < 0 ∧ (0 : Int32).toNatClampNeg < 41) (bd (fX8_common ((g_first x2.toNatClampNeg) - (g_first (0 : Int32).toNatClampNeg)) g_step) (fun u12 => lt_ (x2 + (1 : Int32)) (fun y13 => some (Sum.inl ((y13, u12))))))))
noncomputable def sX8_findCover_7 (x1 : Int32) (g_coverMany : Int32) (g_first : Nat → Int32) : (Int32 × Int32) → Option ((Int32 × Int32) ⊕ (Int32 × Int32)) := fun q => bX8_findCover_7 x1 g_coverMany g_first q.1 q.2
noncomputable def fX8_findCover (q1 : Int32) (g_step : Int32) (g_coverMany : Int32) (g_first : Nat → Int32) : Option (Int32 × Int32) := run (sX8_findCover_7 q1 g_coverMany g_first) (((1 : Int32), (0 : Int32)))
set_option maxHeartbeats 4000000 in
set_option maxRecDepth 100000 in
theorem cX8_findCover_ct (l : Launch) (D : va_G) (cI cL cC cZ : ClassId) (a_this a_text a_now a_before a_read a_first a_second a_sums a_other a_grid a_order : Nat) (g_length : Int32) (g_undoMany : Int32) (g_spot : Int32) (g_step : Int32) (g_coverMany : Int32) (g_leastSums : Int32) (g_leastPart : Int32) (g_first : Nat → Int32) (q1 : Int32) (v_step : Int32) (v_coverMany : Int32) (hf : fX8_findCover q1 g_step g_coverMany g_first = some ((v_step, v_coverMany))) : CtV l yX8_findCover wsX8_findCover rmX8_findCover D (tyz cI cL cC cZ) [.ref a_this, .int q1] [(a_this, .inr (8, [.int g_length, .ref a_text, .ref a_now, .ref a_before, .int g_undoMany, .ref a_read, .int g_spot, .ref a_first, .ref a_second, .ref a_sums, .ref a_other, .int g_step, .int g_coverMany, .ref a_grid, .ref a_order, .int g_leastSums, .int g_leastPart])), (a_first, .inl (cI, 41, .inl g_first))] [(a_this, .inr (8, [.int g_length, .ref a_text, .ref a_now, .ref a_before, .int g_undoMany, .ref a_read, .int g_spot, .ref a_first, .ref a_second, .ref a_sums, .ref a_other, .int v_step, .int v_coverMany, .ref a_grid, .ref a_order, .int g_leastSums, .int g_leastPart])), (a_first, .inl (cI, 41, .inl g_first))] := by
  refine CtV.make (cc := cX8_findCover) (maxL := 3) (by decide) rfl (Nat.le_of_ble_eq_true rfl) ?_
  intro p e s m below meth c A ls C0 hN hA hP hD hl
  obtain ⟨hx, hb, hr, hml, hown, hts, hlk⟩ := id C0
  have hown : s.vm.findClass RX8 = some m.cls := hown
  have hS : va_S A s.heap s.heap [] := va_S.rf
  have hP : va_P D vwCl [(a_this, .inr (8, [.int g_length, .ref a_text, .ref a_now, .ref a_before, .int g_undoMany, .ref a_read, .int g_spot, .ref a_first, .ref a_second, .ref a_sums, .ref a_other, .int g_step, .int g_coverMany, .ref a_grid, .ref a_order, .int g_leastSums, .int g_leastPart])), (a_first, .inl (cI, 41, .inl g_first))] s.heap := hP
  have hD : va_D A [(a_this, .inr (8, [.int g_length, .ref a_text, .ref a_now, .ref a_before, .int g_undoMany, .ref a_read, .int g_spot, .ref a_first, .ref a_second, .ref a_sums, .ref a_other, .int g_step, .int g_coverMany, .ref a_grid, .ref a_order, .int g_leastSums, .int g_leastPart])), (a_first, .inl (cI, 41, .inl g_first))] := hD
  have hl : lv_has ls 3 [(0, .ref a_this), (1, .int q1)] := hl
  have z1 : ∀ w ∈ u_ws RX8 TX8 17, w ∈ wsX8_findCover := by decide +kernel
  have z2 := hts (.fieldLink RX8 134 "LittleSumsModel" "coverMany" "I") (by decide +kernel)
  have z3 := hts (.fieldLink RX8 128 "LittleSumsModel" "step" "I") (by decide +kernel)
  have z4 := hts (.fieldLink RX8 23 "LittleSumsModel" "first" "[I") (by decide +kernel)
  have z5 := va_cwS (R := rmX8_findCover) (rm := rmX8_common) (mc := 0) (ms := 0) 2 hts gX8_findCover_X8_common rfl rfl rfl (by decide +kernel) ⟨Nat.le_of_ble_eq_true rfl, Nat.le_of_ble_eq_true rfl⟩
  have w76 : ∀ (k1 : Int32) (g_step : Int32) (g_coverMany : Int32) (g_first : Nat → Int32) (H : Heap) (locs : List Loc) (ls : Array Slot), bX8_findCover_76 k1 g_step g_coverMany g_first = some ((v_step, v_coverMany)) → va_P D vwCl [(a_this, .inr (8, [.int g_length, .ref a_text, .ref a_now, .ref a_before, .int g_undoMany, .ref a_read, .int g_spot, .ref a_first, .ref a_second, .ref a_sums, .ref a_other, .int g_step, .int g_coverMany, .ref a_grid, .ref a_order, .int g_leastSums, .int g_leastPart])), (a_first, .inl (cI, 41, .inl g_first))] H → va_D A [(a_this, .inr (8, [.int g_length, .ref a_text, .ref a_now, .ref a_before, .int g_undoMany, .ref a_read, .int g_spot, .ref a_first, .ref a_second, .ref a_sums, .ref a_other, .int g_step, .int g_coverMany, .ref a_grid, .ref a_order, .int g_leastSums, .int g_leastPart])), (a_first, .inl (cI, 41, .inl g_first))] → va_S A s.heap H locs → lv_has ls 3 [(0, .ref a_this)] → W p l e rmX8_findCover s m ([.ref a_this, .int q1] : List Value).toArray below meth c H locs 0 0 (MQ below (cQv D A [(a_this, .inr (8, [.int g_length, .ref a_text, .ref a_now, .ref a_before, .int g_undoMany, .ref a_read, .int g_spot, .ref a_first, .ref a_second, .ref a_sums, .ref a_other, .int v_step, .int v_coverMany, .ref a_grid, .ref a_order, .int g_leastSums, .int g_leastPart])), (a_first, .inl (cI, 41, .inl g_first))]) ([.ref a_this, .int q1] : List Value).toArray s 0 0 A) (F0 m 76 ls [.int k1, .ref a_this]) := by
    intro k1 g_step g_coverMany g_first H locs ls hf hP hD hS hl
    unfold bX8_findCover_76 at hf
    refine va_put (D := D) (ci := 8) (v := .int k1) (ty := .int) (C := RX8) (T := TX8) (N := 17) hx hb hts z1 tyX8 tyX8_ok nmX8 hown hN.1 hP hD hS 0 rfl rfl 12 (by decide) z2 (fun _ h9 => h9) rfl (by decide +kernel) rfl rfl (Nat.le_of_ble_eq_true rfl) dX8_findCover_76 (fun H locs hP hD hS => ?_)
    have hP : va_P D vwCl [(a_this, .inr (8, [.int g_length, .ref a_text, .ref a_now, .ref a_before, .int g_undoMany, .ref a_read, .int g_spot, .ref a_first, .ref a_second, .ref a_sums, .ref a_other, .int g_step, .int k1, .ref a_grid, .ref a_order, .int g_leastSums, .int g_leastPart])), (a_first, .inl (cI, 41, .inl g_first))] H := hP
    have hD : va_D A [(a_this, .inr (8, [.int g_length, .ref a_text, .ref a_now, .ref a_before, .int g_undoMany, .ref a_read, .int g_spot, .ref a_first, .ref a_second, .ref a_sums, .ref a_other, .int g_step, .int k1, .ref a_grid, .ref a_order, .int g_leastSums, .int g_leastPart])), (a_first, .inl (cI, 41, .inl g_first))] := hD
    refine lv_aload_n hx hb dX8_findCover_79 rfl (lv_at hl 0 rfl) ?_
    refine lv_aload_n hx hb dX8_findCover_80 rfl (lv_at hl 0 rfl) ?_
    refine va_get (D := D) (ci := 8) (v := .int g_step) (C := RX8) (T := TX8) (N := 17) hx hb hts z1 hown hN.1 hP 0 rfl rfl 11 (by decide) z3 (fun _ h9 => h9) rfl dX8_findCover_81 ?_
    refine lv_if_ne (tgt := 91) hx hb dX8_findCover_84 (by decide) (fun c1 => ?_) (fun c1 => ?_)
    · have hf := br_neg c1 hf
      refine lv_aload_n hx hb dX8_findCover_91 rfl (lv_at hl 0 rfl) ?_
      refine va_get (D := D) (ci := 8) (v := .int g_step) (C := RX8) (T := TX8) (N := 17) hx hb hts z1 hown hN.1 hP 0 rfl rfl 11 (by decide) z3 (fun _ h9 => h9) rfl dX8_findCover_92 ?_
      refine va_put (D := D) (ci := 8) (v := .int g_step) (ty := .int) (C := RX8) (T := TX8) (N := 17) hx hb hts z1 tyX8 tyX8_ok nmX8 hown hN.1 hP hD hS 0 rfl rfl 11 (by decide) z3 (fun _ h9 => h9) rfl (by decide +kernel) rfl rfl (Nat.le_of_ble_eq_true rfl) dX8_findCover_95 (fun H locs hP hD hS => ?_)
      have hP : va_P D vwCl [(a_this, .inr (8, [.int g_length, .ref a_text, .ref a_now, .ref a_before, .int g_undoMany, .ref a_read, .int g_spot, .ref a_first, .ref a_second, .ref a_sums, .ref a_other, .int g_step, .int k1, .ref a_grid, .ref a_order, .int g_leastSums, .int g_leastPart])), (a_first, .inl (cI, 41, .inl g_first))] H := hP
      have hD : va_D A [(a_this, .inr (8, [.int g_length, .ref a_text, .ref a_now, .ref a_before, .int g_undoMany, .ref a_read, .int g_spot, .ref a_first, .ref a_second, .ref a_sums, .ref a_other, .int g_step, .int k1, .ref a_grid, .ref a_order, .int g_leastSums, .int g_leastPart])), (a_first, .inl (cI, 41, .inl g_first))] := hD
      have hE : (g_step, k1) = (v_step, v_coverMany) := Option.some.inj hf
      simp only [Prod.mk.injEq] at hE
      obtain ⟨rfl, rfl⟩ := hE
      exact rtV hx hb hr hlk hP hD hS dX8_findCover_98
    · have hf := br_pos c1 hf
      refine lv_iconst (v := 1) hx hb dX8_findCover_87 (by decide) ?_
      refine lv_goto (tgt := 95) hx hb dX8_findCover_88 (by decide) ?_
      refine va_put (D := D) (ci := 8) (v := .int (1 : Int32)) (ty := .int) (C := RX8) (T := TX8) (N := 17) hx hb hts z1 tyX8 tyX8_ok nmX8 hown hN.1 hP hD hS 0 rfl rfl 11 (by decide) z3 (fun _ h9 => h9) rfl (by decide +kernel) rfl rfl (Nat.le_of_ble_eq_true rfl) dX8_findCover_95 (fun H locs hP hD hS => ?_)
      have hP : va_P D vwCl [(a_this, .inr (8, [.int g_length, .ref a_text, .ref a_now, .ref a_before, .int g_undoMany, .ref a_read, .int g_spot, .ref a_first, .ref a_second, .ref a_sums, .ref a_other, .int (1 : Int32), .int k1, .ref a_grid, .ref a_order, .int g_leastSums, .int g_leastPart])), (a_first, .inl (cI, 41, .inl g_first))] H := hP
      have hD : va_D A [(a_this, .inr (8, [.int g_length, .ref a_text, .ref a_now, .ref a_before, .int g_undoMany, .ref a_read, .int g_spot, .ref a_first, .ref a_second, .ref a_sums, .ref a_other, .int (1 : Int32), .int k1, .ref a_grid, .ref a_order, .int g_leastSums, .int g_leastPart])), (a_first, .inl (cI, 41, .inl g_first))] := hD
      have hE : ((1 : Int32), k1) = (v_step, v_coverMany) := Option.some.inj hf
      simp only [Prod.mk.injEq] at hE
      obtain ⟨rfl, rfl⟩ := hE
      exact rtV hx hb hr hlk hP hD hS dX8_findCover_98
  have w7 : ∀ (x1 : Int32) (g_coverMany : Int32) (g_first : Nat → Int32) (x2 : Int32) (g_step : Int32) (t : Int32 × Int32) (H : Heap) (locs : List Loc) (ls : Array Slot), run (sX8_findCover_7 x1 g_coverMany g_first) ((x2, g_step)) = some t → (fun z => z = (v_step, v_coverMany)) t → va_P D vwCl [(a_this, .inr (8, [.int g_length, .ref a_text, .ref a_now, .ref a_before, .int g_undoMany, .ref a_read, .int g_spot, .ref a_first, .ref a_second, .ref a_sums, .ref a_other, .int g_step, .int g_coverMany, .ref a_grid, .ref a_order, .int g_leastSums, .int g_leastPart])), (a_first, .inl (cI, 41, .inl g_first))] H → va_D A [(a_this, .inr (8, [.int g_length, .ref a_text, .ref a_now, .ref a_before, .int g_undoMany, .ref a_read, .int g_spot, .ref a_first, .ref a_second, .ref a_sums, .ref a_other, .int g_step, .int g_coverMany, .ref a_grid, .ref a_order, .int g_leastSums, .int g_leastPart])), (a_first, .inl (cI, 41, .inl g_first))] → va_S A s.heap H locs → lv_has ls 3 [(0, .ref a_this), (1, .int x1), (2, .int x2)] → W p l e rmX8_findCover s m ([.ref a_this, .int q1] : List Value).toArray below meth c H locs 0 0 (MQ below (cQv D A [(a_this, .inr (8, [.int g_length, .ref a_text, .ref a_now, .ref a_before, .int g_undoMany, .ref a_read, .int g_spot, .ref a_first, .ref a_second, .ref a_sums, .ref a_other, .int v_step, .int v_coverMany, .ref a_grid, .ref a_order, .int g_leastSums, .int g_leastPart])), (a_first, .inl (cI, 41, .inl g_first))]) ([.ref a_this, .int q1] : List Value).toArray s 0 0 A) (F0 m 7 ls []) := by
    intro x1 g_coverMany g_first
    obtain ⟨F7, eF7⟩ : ∃ F : (Int32 × Int32) → Prop, F = fun q => ∀ (H : Heap) (locs : List Loc) (ls : Array Slot), va_P D vwCl [(a_this, .inr (8, [.int g_length, .ref a_text, .ref a_now, .ref a_before, .int g_undoMany, .ref a_read, .int g_spot, .ref a_first, .ref a_second, .ref a_sums, .ref a_other, .int q.2, .int g_coverMany, .ref a_grid, .ref a_order, .int g_leastSums, .int g_leastPart])), (a_first, .inl (cI, 41, .inl g_first))] H → va_D A [(a_this, .inr (8, [.int g_length, .ref a_text, .ref a_now, .ref a_before, .int g_undoMany, .ref a_read, .int g_spot, .ref a_first, .ref a_second, .ref a_sums, .ref a_other, .int q.2, .int g_coverMany, .ref a_grid, .ref a_order, .int g_leastSums, .int g_leastPart])), (a_first, .inl (cI, 41, .inl g_first))] → va_S A s.heap H locs → lv_has ls 3 [(0, .ref a_this), (1, .int x1), (2, .int q.1)] → W p l e rmX8_findCover s m ([.ref a_this, .int q1] : List Value).toArray below meth c H locs 0 0 (MQ below (cQv D A [(a_this, .inr (8, [.int g_length, .ref a_text, .ref a_now, .ref a_before, .int g_undoMany, .ref a_read, .int g_spot, .ref a_first, .ref a_second, .ref a_sums, .ref a_other, .int v_step, .int v_coverMany, .ref a_grid, .ref a_order, .int g_leastSums, .int g_leastPart])), (a_first, .inl (cI, 41, .inl g_first))]) ([.ref a_this, .int q1] : List Value).toArray s 0 0 A) (F0 m 7 ls []) := ⟨_, rfl⟩
    have key : ∀ (q : Int32 × Int32) (t : Int32 × Int32), run (sX8_findCover_7 x1 g_coverMany g_first) q = some t → (fun z => z = (v_step, v_coverMany)) t → F7 q := by
      refine loop_rule (sX8_findCover_7 x1 g_coverMany g_first) F7 (fun z => z = (v_step, v_coverMany)) ?_
      intro q t hf hF
      have hF : (Sum.elim F7 (fun z => z = (v_step, v_coverMany))) t := hF
      rw [eF7]
      obtain ⟨x2, g_step⟩ := q
      intro H locs ls hP hD hS hl
      have hP : va_P D vwCl [(a_this, .inr (8, [.int g_length, .ref a_text, .ref a_now, .ref a_before, .int g_undoMany, .ref a_read, .int g_spot, .ref a_first, .ref a_second, .ref a_sums, .ref a_other, .int g_step, .int g_coverMany, .ref a_grid, .ref a_order, .int g_leastSums, .int g_leastPart])), (a_first, .inl (cI, 41, .inl g_first))] H := hP
      have hD : va_D A [(a_this, .inr (8, [.int g_length, .ref a_text, .ref a_now, .ref a_before, .int g_undoMany, .ref a_read, .int g_spot, .ref a_first, .ref a_second, .ref a_sums, .ref a_other, .int g_step, .int g_coverMany, .ref a_grid, .ref a_order, .int g_leastSums, .int g_leastPart])), (a_first, .inl (cI, 41, .inl g_first))] := hD
      have hl : lv_has ls 3 [(0, .ref a_this), (1, .int x1), (2, .int x2)] := hl
      have hf : bX8_findCover_7 x1 g_coverMany g_first x2 g_step = some t := hf
      unfold bX8_findCover_7 at hf
      refine lv_iload_n hx hb dX8_findCover_7 rfl (lv_at hl 2 rfl) ?_
      refine lv_iload_n hx hb dX8_findCover_8 rfl (lv_at hl 1 rfl) ?_
      refine lv_icmp_ge (tgt := 42) hx hb dX8_findCover_9 (by decide) (fun c2 => ?_) (fun c2 => ?_)
      · have hf := br_pos c2 hf
        refine lv_aload_n hx hb dX8_findCover_42 rfl (lv_at hl 0 rfl) ?_
        refine lv_aload_n hx hb dX8_findCover_43 rfl (lv_at hl 0 rfl) ?_
        refine va_get (D := D) (ci := 8) (v := .int g_step) (C := RX8) (T := TX8) (N := 17) hx hb hts z1 hown hN.1 hP 0 rfl rfl 11 (by decide) z3 (fun _ h9 => h9) rfl dX8_findCover_44 ?_
        refine lv_if_ne (tgt := 54) hx hb dX8_findCover_47 (by decide) (fun c3 => ?_) (fun c3 => ?_)
        · have hf := br_neg c3 hf
          refine lv_aload_n hx hb dX8_findCover_54 rfl (lv_at hl 0 rfl) ?_
          refine va_get (D := D) (ci := 8) (v := .ref a_first) (C := RX8) (T := TX8) (N := 17) hx hb hts z1 hown hN.1 hP 0 rfl rfl 7 (by decide) z4 (fun _ h9 => h9) rfl dX8_findCover_55 ?_
          refine lv_iload_n hx hb dX8_findCover_58 rfl (lv_at hl 1 rfl) ?_
          refine lv_iconst (v := 1) hx hb dX8_findCover_59 (by decide) ?_
          refine lv_isub hx hb dX8_findCover_60 ?_
          obtain ⟨c4, hf⟩ := gd_some hf
          refine va_iald hx hb hN.1 hP 1 0 rfl rfl (ix_in c4) dX8_findCover_61 ?_
          refine lv_aload_n hx hb dX8_findCover_62 rfl (lv_at hl 0 rfl) ?_
          refine va_get (D := D) (ci := 8) (v := .ref a_first) (C := RX8) (T := TX8) (N := 17) hx hb hts z1 hown hN.1 hP 0 rfl rfl 7 (by decide) z4 (fun _ h9 => h9) rfl dX8_findCover_63 ?_
          refine lv_iconst (v := 0) hx hb dX8_findCover_66 (by decide) ?_
          obtain ⟨c5, hf⟩ := gd_some hf
          refine va_iald hx hb hN.1 hP 1 0 rfl rfl (ix_in c5) dX8_findCover_67 ?_
          refine lv_isub hx hb dX8_findCover_68 ?_
          refine lv_aload_n hx hb dX8_findCover_69 rfl (lv_at hl 0 rfl) ?_
          refine va_get (D := D) (ci := 8) (v := .int g_step) (C := RX8) (T := TX8) (N := 17) hx hb hts z1 hown hN.1 hP 0 rfl rfl 11 (by decide) z3 (fun _ h9 => h9) rfl dX8_findCover_70 ?_
          obtain ⟨c6, hf⟩ := gd_some hf
          refine lv_idiv hx hb dX8_findCover_73 c6 ?_
          refine lv_topi (fun y7 ey7 => ?_)
          have hf := lt_some hf y7 ey7
          refine lv_iconst (v := 1) hx hb dX8_findCover_74 (by decide) ?_
          refine lv_iadd hx hb dX8_findCover_75 ?_
          obtain ⟨t8, hf, hF⟩ := ml_fin hf hF
          have hF : t8 = (v_step, v_coverMany) := hF
          rw [hF] at hf
          exact w76 (y7 + (1 : Int32)) g_step g_coverMany g_first H locs ls hf hP hD hS (lv_sub hl [0] rfl)
        · have hf := br_pos c3 hf
          refine lv_iconst (v := 1) hx hb dX8_findCover_50 (by decide) ?_
          refine lv_goto (tgt := 76) hx hb dX8_findCover_51 (by decide) ?_
          obtain ⟨t9, hf, hF⟩ := ml_fin hf hF
          have hF : t9 = (v_step, v_coverMany) := hF
          rw [hF] at hf
          exact w76 (1 : Int32) g_step g_coverMany g_first H locs ls hf hP hD hS (lv_sub hl [0] rfl)
      · have hf := br_neg c2 hf
        refine lv_aload_n hx hb dX8_findCover_12 rfl (lv_at hl 0 rfl) ?_
        refine lv_aload_n hx hb dX8_findCover_13 rfl (lv_at hl 0 rfl) ?_
        refine va_get (D := D) (ci := 8) (v := .ref a_first) (C := RX8) (T := TX8) (N := 17) hx hb hts z1 hown hN.1 hP 0 rfl rfl 7 (by decide) z4 (fun _ h9 => h9) rfl dX8_findCover_14 ?_
        refine lv_iload_n hx hb dX8_findCover_17 rfl (lv_at hl 2 rfl) ?_
        obtain ⟨c10, hf⟩ := gd_some hf
        refine va_iald hx hb hN.1 hP 1 0 rfl rfl (ix_in c10) dX8_findCover_18 ?_
        refine lv_aload_n hx hb dX8_findCover_19 rfl (lv_at hl 0 rfl) ?_
        refine va_get (D := D) (ci := 8) (v := .ref a_first) (C := RX8) (T := TX8) (N := 17) hx hb hts z1 hown hN.1 hP 0 rfl rfl 7 (by decide) z4 (fun _ h9 => h9) rfl dX8_findCover_20 ?_
        refine lv_iconst (v := 0) hx hb dX8_findCover_23 (by decide) ?_
        obtain ⟨c11, hf⟩ := gd_some hf
        refine va_iald hx hb hN.1 hP 1 0 rfl rfl (ix_in c11) dX8_findCover_24 ?_
        refine lv_isub hx hb dX8_findCover_25 ?_
        refine lv_aload_n hx hb dX8_findCover_26 rfl (lv_at hl 0 rfl) ?_
        refine va_get (D := D) (ci := 8) (v := .int g_step) (C := RX8) (T := TX8) (N := 17) hx hb hts z1 hown hN.1 hP 0 rfl rfl 11 (by decide) z3 (fun _ h9 => h9) rfl dX8_findCover_27 ?_
        obtain ⟨u12, hu12, hf⟩ := bd_some hf
        refine caSI (rest := [.ref a_this]) (As := [.int ((g_first x2.toNatClampNeg) - (g_first (0 : Int32).toNatClampNeg)), .int g_step]) (wr := [(a_this, .inr (8, [.int g_length, .ref a_text, .ref a_now, .ref a_before, .int g_undoMany, .ref a_read, .int g_spot, .ref a_first, .ref a_second, .ref a_sums, .ref a_other, .int g_step, .int g_coverMany, .ref a_grid, .ref a_order, .int g_leastSums, .int g_leastPart])), (a_first, .inl (cI, 41, .inl g_first))]) (wo := [(a_this, .inr (8, [.int g_length, .ref a_text, .ref a_now, .ref a_before, .int g_undoMany, .ref a_read, .int g_spot, .ref a_first, .ref a_second, .ref a_sums, .ref a_other, .int g_step, .int g_coverMany, .ref a_grid, .ref a_order, .int g_leastSums, .int g_leastPart])), (a_first, .inl (cI, 41, .inl g_first))]) ⟨hx, hb, hml, hown, hts⟩ hN hP hD hS hA (cX8_common_ct l D cI cL cC cZ ((g_first x2.toNatClampNeg) - (g_first (0 : Int32).toNatClampNeg)) g_step u12 hu12) z5 [] [0, 1] [0, 1] rfl (by decide) rfl (by decide) (by decide) rfl (by decide) rfl hl.1 rfl (Nat.le_of_ble_eq_true rfl) dX8_findCover_30 ⟨Nat.zero_le _, Nat.zero_le _⟩ (fun H locs hP hD hS => ?_)
        refine va_put (D := D) (ci := 8) (v := .int u12) (ty := .int) (C := RX8) (T := TX8) (N := 17) hx hb hts z1 tyX8 tyX8_ok nmX8 hown hN.1 hP hD hS 0 rfl rfl 11 (by decide) z3 (fun _ h9 => h9) rfl (by decide +kernel) rfl rfl (Nat.le_of_ble_eq_true rfl) dX8_findCover_33 (fun H locs hP hD hS => ?_)
        have hP : va_P D vwCl [(a_this, .inr (8, [.int g_length, .ref a_text, .ref a_now, .ref a_before, .int g_undoMany, .ref a_read, .int g_spot, .ref a_first, .ref a_second, .ref a_sums, .ref a_other, .int u12, .int g_coverMany, .ref a_grid, .ref a_order, .int g_leastSums, .int g_leastPart])), (a_first, .inl (cI, 41, .inl g_first))] H := hP
        have hD : va_D A [(a_this, .inr (8, [.int g_length, .ref a_text, .ref a_now, .ref a_before, .int g_undoMany, .ref a_read, .int g_spot, .ref a_first, .ref a_second, .ref a_sums, .ref a_other, .int u12, .int g_coverMany, .ref a_grid, .ref a_order, .int g_leastSums, .int g_leastPart])), (a_first, .inl (cI, 41, .inl g_first))] := hD
        obtain ⟨y13, ey13⟩ : ∃ z : Int32, z = x2 + (1 : Int32) := ⟨_, rfl⟩
        have hf := lt_some hf y13 ey13
        refine lv_iinc (v := y13) (lv' := [(2, .int y13), (0, .ref a_this), (1, .int x1)]) hx hb dX8_findCover_36 hl (k := 2) rfl (by rw [ey13]; rfl) (by decide) rfl (fun ls hl => ?_)
        refine lv_goto (tgt := 7) hx hb dX8_findCover_39 (by decide) ?_
        cases hf
        exact ((congrFun eF7 _).mp hF) H locs ls hP hD hS (lv_sub hl [1, 2, 0] rfl)
    intro x2 g_step t H locs ls hf hF hP hD hS hl
    exact ((congrFun eF7 _).mp (key ((x2, g_step)) t hf hF)) H locs ls hP hD hS hl
  unfold fX8_findCover at hf
  obtain ⟨H, eH⟩ : ∃ z, z = s.heap := ⟨_, rfl⟩
  obtain ⟨locs, eL⟩ : ∃ z : List Loc, z = [] := ⟨_, rfl⟩
  have hP : va_P D vwCl [(a_this, .inr (8, [.int g_length, .ref a_text, .ref a_now, .ref a_before, .int g_undoMany, .ref a_read, .int g_spot, .ref a_first, .ref a_second, .ref a_sums, .ref a_other, .int g_step, .int g_coverMany, .ref a_grid, .ref a_order, .int g_leastSums, .int g_leastPart])), (a_first, .inl (cI, 41, .inl g_first))] H := by rw [eH]; exact hP
  have hS : va_S A s.heap H locs := by rw [eH, eL]; exact hS
  suffices hG : W p l e rmX8_findCover s m ([.ref a_this, .int q1] : List Value).toArray below meth c H locs 0 0 (MQ below (cQv D A [(a_this, .inr (8, [.int g_length, .ref a_text, .ref a_now, .ref a_before, .int g_undoMany, .ref a_read, .int g_spot, .ref a_first, .ref a_second, .ref a_sums, .ref a_other, .int v_step, .int v_coverMany, .ref a_grid, .ref a_order, .int g_leastSums, .int g_leastPart])), (a_first, .inl (cI, 41, .inl g_first))]) ([.ref a_this, .int q1] : List Value).toArray s 0 0 A) (F0 m 0 ls []) by rw [eH, eL] at hG; exact hG
  refine lv_aload_n hx hb dX8_findCover_0 rfl (lv_at hl 0 rfl) ?_
  refine lv_iconst (v := 0) hx hb dX8_findCover_1 (by decide) ?_
  refine va_put (D := D) (ci := 8) (v := .int (0 : Int32)) (ty := .int) (C := RX8) (T := TX8) (N := 17) hx hb hts z1 tyX8 tyX8_ok nmX8 hown hN.1 hP hD hS 0 rfl rfl 11 (by decide) z3 (fun _ h9 => h9) rfl (by decide +kernel) rfl rfl (Nat.le_of_ble_eq_true rfl) dX8_findCover_2 (fun H locs hP hD hS => ?_)
  have hP : va_P D vwCl [(a_this, .inr (8, [.int g_length, .ref a_text, .ref a_now, .ref a_before, .int g_undoMany, .ref a_read, .int g_spot, .ref a_first, .ref a_second, .ref a_sums, .ref a_other, .int (0 : Int32), .int g_coverMany, .ref a_grid, .ref a_order, .int g_leastSums, .int g_leastPart])), (a_first, .inl (cI, 41, .inl g_first))] H := hP
  have hD : va_D A [(a_this, .inr (8, [.int g_length, .ref a_text, .ref a_now, .ref a_before, .int g_undoMany, .ref a_read, .int g_spot, .ref a_first, .ref a_second, .ref a_sums, .ref a_other, .int (0 : Int32), .int g_coverMany, .ref a_grid, .ref a_order, .int g_leastSums, .int g_leastPart])), (a_first, .inl (cI, 41, .inl g_first))] := hD
  refine lv_iconst (v := 1) hx hb dX8_findCover_5 (by decide) ?_
  refine lv_istore_n (lv' := [(2, .int (1 : Int32)), (0, .ref a_this), (1, .int q1)]) hx hb dX8_findCover_6 rfl hl (by decide) rfl (fun ls hl => ?_)
  exact w7 q1 g_coverMany g_first (1 : Int32) (0 : Int32) (v_step, v_coverMany) H locs ls hf rfl hP hD hS (lv_sub hl [1, 2, 0] rfl)
abbrev rmX8_cover : Room := { frames := 2, cells := 0, slots := 0, locals := 46 }
noncomputable def fX8_cover (q1 : Int32) (q2 : Int32) (g_step : Int32) (g_coverMany : Int32) (g_now : Nat → Int32) (g_first : Nat → Int32) : Option (Int32 × Int32 × Int32 × (Nat → Int32)) := bd (fX8_isSlot q1) (fun u1 => br (u1 = 0) (some (((-1 : Int32), g_step, g_coverMany, g_first))) (bd (fX8_in q2.toInt64 (0 : Int64) (2 : Int64)) (fun u3 => br (u3 = 0) (some (((-1 : Int32), g_step, g_coverMany, g_first))) (bd (fX8_lists q1 41 g_now g_first) (fun u5 => br (u5.1 = 0) (some (((-2 : Int32), g_step, g_coverMany, u5.2))) (bd (fX8_findCover u5.1 g_step g_coverMany u5.2) (fun u7 => br (q2 = 0) (gd (¬ (0 : Int32) < 0 ∧ (0 : Int32).toNatClampNeg < 41) (some ((u5.2 (0 : Int32).toNatClampNeg, u7.1, u7.2, u5.2)))) (br (q2 = (1 : Int32)) (some ((u7.1, u7.1, u7.2, u5.2))) (some ((u7.2, u7.1, u7.2, u5.2)))))))))))
set_option maxHeartbeats 4000000 in
set_option maxRecDepth 100000 in
theorem cX8_cover_ct (l : Launch) (D : va_G) (cI cL cC cZ : ClassId) (a_this a_text a_now a_before a_read a_first a_second a_sums a_other a_grid a_order : Nat) (g_length : Int32) (g_undoMany : Int32) (g_spot : Int32) (g_step : Int32) (g_coverMany : Int32) (g_leastSums : Int32) (g_leastPart : Int32) (g_now : Nat → Int32) (g_first : Nat → Int32) (q1 : Int32) (q2 : Int32) (r0 : Int32) (v_step : Int32) (v_coverMany : Int32) (v_first : Nat → Int32) (hf : fX8_cover q1 q2 g_step g_coverMany g_now g_first = some ((r0, v_step, v_coverMany, v_first))) : CtI l yX8_cover wsX8_cover rmX8_cover D (tyz cI cL cC cZ) [.ref a_this, .int q1, .int q2] [(a_this, .inr (8, [.int g_length, .ref a_text, .ref a_now, .ref a_before, .int g_undoMany, .ref a_read, .int g_spot, .ref a_first, .ref a_second, .ref a_sums, .ref a_other, .int g_step, .int g_coverMany, .ref a_grid, .ref a_order, .int g_leastSums, .int g_leastPart])), (a_now, .inl (cZ, 164, .inl g_now)), (a_first, .inl (cI, 41, .inl g_first))] [(a_this, .inr (8, [.int g_length, .ref a_text, .ref a_now, .ref a_before, .int g_undoMany, .ref a_read, .int g_spot, .ref a_first, .ref a_second, .ref a_sums, .ref a_other, .int v_step, .int v_coverMany, .ref a_grid, .ref a_order, .int g_leastSums, .int g_leastPart])), (a_now, .inl (cZ, 164, .inl g_now)), (a_first, .inl (cI, 41, .inl v_first))] r0 := by
  refine CtI.make (cc := cX8_cover) (maxL := 4) (ty := .int) (by decide) rfl (Nat.le_of_ble_eq_true rfl) ?_
  intro p e s m below meth c A ls C0 hN hA hP hD hl
  obtain ⟨hx, hb, hr, hml, hown, hts, hlk⟩ := id C0
  have hown : s.vm.findClass RX8 = some m.cls := hown
  have hS : va_S A s.heap s.heap [] := va_S.rf
  have hP : va_P D vwCl [(a_this, .inr (8, [.int g_length, .ref a_text, .ref a_now, .ref a_before, .int g_undoMany, .ref a_read, .int g_spot, .ref a_first, .ref a_second, .ref a_sums, .ref a_other, .int g_step, .int g_coverMany, .ref a_grid, .ref a_order, .int g_leastSums, .int g_leastPart])), (a_now, .inl (cZ, 164, .inl g_now)), (a_first, .inl (cI, 41, .inl g_first))] s.heap := hP
  have hD : va_D A [(a_this, .inr (8, [.int g_length, .ref a_text, .ref a_now, .ref a_before, .int g_undoMany, .ref a_read, .int g_spot, .ref a_first, .ref a_second, .ref a_sums, .ref a_other, .int g_step, .int g_coverMany, .ref a_grid, .ref a_order, .int g_leastSums, .int g_leastPart])), (a_now, .inl (cZ, 164, .inl g_now)), (a_first, .inl (cI, 41, .inl g_first))] := hD
  have hl : lv_has ls 4 [(0, .ref a_this), (1, .int q1), (2, .int q2)] := hl
  have z1 := va_cwS (R := rmX8_cover) (rm := rmX8_isSlot) (mc := 0) (ms := 0) 1 hts gX8_cover_X8_isSlot rfl rfl rfl (by decide +kernel) ⟨Nat.le_of_ble_eq_true rfl, Nat.le_of_ble_eq_true rfl⟩
  have z2 := hts (.constantLong RX8 137 (2)) (by decide +kernel)
  have z3 := va_cwS (R := rmX8_cover) (rm := rmX8_in) (mc := 0) (ms := 0) 3 hts gX8_cover_X8_in rfl rfl rfl (by decide +kernel) ⟨Nat.le_of_ble_eq_true rfl, Nat.le_of_ble_eq_true rfl⟩
  have z4 : ∀ w ∈ u_ws RX8 TX8 17, w ∈ wsX8_cover := by decide +kernel
  have z5 := hts (.fieldLink RX8 23 "LittleSumsModel" "first" "[I") (by decide +kernel)
  have z6 := cwV (R := rmX8_cover) (rm := rmX8_lists) (mc := 0) (ms := 0) 2 hts gX8_cover_X8_lists rfl rfl rfl (by decide +kernel) ⟨Nat.le_of_ble_eq_true rfl, Nat.le_of_ble_eq_true rfl⟩
  have z7 := cwV (R := rmX8_cover) (rm := rmX8_findCover) (mc := 0) (ms := 0) 1 hts gX8_cover_X8_findCover rfl rfl rfl (by decide +kernel) ⟨Nat.le_of_ble_eq_true rfl, Nat.le_of_ble_eq_true rfl⟩
  have z8 := hts (.fieldLink RX8 134 "LittleSumsModel" "coverMany" "I") (by decide +kernel)
  have z9 := hts (.fieldLink RX8 128 "LittleSumsModel" "step" "I") (by decide +kernel)
  unfold fX8_cover at hf
  obtain ⟨H, eH⟩ : ∃ z, z = s.heap := ⟨_, rfl⟩
  obtain ⟨locs, eL⟩ : ∃ z : List Loc, z = [] := ⟨_, rfl⟩
  have hP : va_P D vwCl [(a_this, .inr (8, [.int g_length, .ref a_text, .ref a_now, .ref a_before, .int g_undoMany, .ref a_read, .int g_spot, .ref a_first, .ref a_second, .ref a_sums, .ref a_other, .int g_step, .int g_coverMany, .ref a_grid, .ref a_order, .int g_leastSums, .int g_leastPart])), (a_now, .inl (cZ, 164, .inl g_now)), (a_first, .inl (cI, 41, .inl g_first))] H := by rw [eH]; exact hP
  have hS : va_S A s.heap H locs := by rw [eH, eL]; exact hS
  suffices hG : W p l e rmX8_cover s m ([.ref a_this, .int q1, .int q2] : List Value).toArray below meth c H locs 0 0 (MQ below (cQi D r0 A [(a_this, .inr (8, [.int g_length, .ref a_text, .ref a_now, .ref a_before, .int g_undoMany, .ref a_read, .int g_spot, .ref a_first, .ref a_second, .ref a_sums, .ref a_other, .int v_step, .int v_coverMany, .ref a_grid, .ref a_order, .int g_leastSums, .int g_leastPart])), (a_now, .inl (cZ, 164, .inl g_now)), (a_first, .inl (cI, 41, .inl v_first))]) ([.ref a_this, .int q1, .int q2] : List Value).toArray s 0 0 A) (F0 m 0 ls []) by rw [eH, eL] at hG; exact hG
  refine lv_iload_n hx hb dX8_cover_0 rfl (lv_at hl 1 rfl) ?_
  obtain ⟨u1, hu1, hf⟩ := bd_some hf
  refine caSI (rest := []) (As := [.int q1]) (wr := [(a_this, .inr (8, [.int g_length, .ref a_text, .ref a_now, .ref a_before, .int g_undoMany, .ref a_read, .int g_spot, .ref a_first, .ref a_second, .ref a_sums, .ref a_other, .int g_step, .int g_coverMany, .ref a_grid, .ref a_order, .int g_leastSums, .int g_leastPart])), (a_now, .inl (cZ, 164, .inl g_now)), (a_first, .inl (cI, 41, .inl g_first))]) (wo := [(a_this, .inr (8, [.int g_length, .ref a_text, .ref a_now, .ref a_before, .int g_undoMany, .ref a_read, .int g_spot, .ref a_first, .ref a_second, .ref a_sums, .ref a_other, .int g_step, .int g_coverMany, .ref a_grid, .ref a_order, .int g_leastSums, .int g_leastPart])), (a_now, .inl (cZ, 164, .inl g_now)), (a_first, .inl (cI, 41, .inl g_first))]) ⟨hx, hb, hml, hown, hts⟩ hN hP hD hS hA (cX8_isSlot_ct l D cI cL cC cZ q1 u1 hu1) z1 [] [0, 1, 2] [0, 1, 2] rfl (by decide) rfl (by decide) (by decide) rfl (by decide) rfl hl.1 rfl (Nat.le_of_ble_eq_true rfl) dX8_cover_1 ⟨Nat.zero_le _, Nat.zero_le _⟩ (fun H locs hP hD hS => ?_)
  refine lv_if_eq (tgt := 19) hx hb dX8_cover_4 (by decide) (fun c2 => ?_) (fun c2 => ?_)
  · have hf := br_pos c2 hf
    refine lv_iconst (v := -1) hx hb dX8_cover_19 (by decide) ?_
    have hE : ((-1 : Int32), g_step, g_coverMany, g_first) = (r0, v_step, v_coverMany, v_first) := Option.some.inj hf
    simp only [Prod.mk.injEq] at hE
    obtain ⟨rfl, rfl, rfl, rfl⟩ := hE
    exact rtI hx hb hr hlk hP hD hS dX8_cover_20
  · have hf := br_neg c2 hf
    refine lv_iload_n hx hb dX8_cover_7 rfl (lv_at hl 2 rfl) ?_
    refine lv_i2l hx hb dX8_cover_8 rfl ?_
    refine lv_lconst (v := 0) hx hb dX8_cover_9 (by decide) ?_
    refine lv_ldc2 (v := 2) hx hb hown z2 dX8_cover_10 ?_
    obtain ⟨u3, hu3, hf⟩ := bd_some hf
    refine caSI (rest := []) (As := [.long q2.toInt64, .long (0 : Int64), .long (2 : Int64)]) (wr := [(a_this, .inr (8, [.int g_length, .ref a_text, .ref a_now, .ref a_before, .int g_undoMany, .ref a_read, .int g_spot, .ref a_first, .ref a_second, .ref a_sums, .ref a_other, .int g_step, .int g_coverMany, .ref a_grid, .ref a_order, .int g_leastSums, .int g_leastPart])), (a_now, .inl (cZ, 164, .inl g_now)), (a_first, .inl (cI, 41, .inl g_first))]) (wo := [(a_this, .inr (8, [.int g_length, .ref a_text, .ref a_now, .ref a_before, .int g_undoMany, .ref a_read, .int g_spot, .ref a_first, .ref a_second, .ref a_sums, .ref a_other, .int g_step, .int g_coverMany, .ref a_grid, .ref a_order, .int g_leastSums, .int g_leastPart])), (a_now, .inl (cZ, 164, .inl g_now)), (a_first, .inl (cI, 41, .inl g_first))]) ⟨hx, hb, hml, hown, hts⟩ hN hP hD hS hA (cX8_in_ct l D cI cL cC cZ q2.toInt64 (0 : Int64) (2 : Int64) u3 hu3) z3 [] [0, 1, 2] [0, 1, 2] rfl (by decide) rfl (by decide) (by decide) rfl (by decide) rfl hl.1 rfl (Nat.le_of_ble_eq_true rfl) dX8_cover_13 ⟨Nat.zero_le _, Nat.zero_le _⟩ (fun H locs hP hD hS => ?_)
    refine lv_if_ne (tgt := 21) hx hb dX8_cover_16 (by decide) (fun c4 => ?_) (fun c4 => ?_)
    · have hf := br_neg c4 hf
      refine lv_aload_n hx hb dX8_cover_21 rfl (lv_at hl 0 rfl) ?_
      refine lv_iload_n hx hb dX8_cover_22 rfl (lv_at hl 1 rfl) ?_
      refine lv_aload_n hx hb dX8_cover_23 rfl (lv_at hl 0 rfl) ?_
      refine va_get (D := D) (ci := 8) (v := .ref a_first) (C := RX8) (T := TX8) (N := 17) hx hb hts z4 hown hN.1 hP 0 rfl rfl 7 (by decide) z5 (fun _ h9 => h9) rfl dX8_cover_24 ?_
      obtain ⟨u5, hu5, hf⟩ := bd_some hf
      refine caVI (rest := []) (As := [.int q1, .ref a_first]) (wr := []) (wo := [(a_this, .inr (8, [.int g_length, .ref a_text, .ref a_now, .ref a_before, .int g_undoMany, .ref a_read, .int g_spot, .ref a_first, .ref a_second, .ref a_sums, .ref a_other, .int g_step, .int g_coverMany, .ref a_grid, .ref a_order, .int g_leastSums, .int g_leastPart])), (a_now, .inl (cZ, 164, .inl g_now)), (a_first, .inl (cI, 41, .inl u5.2))]) ⟨hx, hb, hml, hown, hts⟩ hN hP hD hS hA (cX8_lists_ct l D cI cL cC cZ a_this a_first a_text a_now a_before a_read a_first a_second a_sums a_other a_grid a_order 41 g_length g_undoMany g_spot g_step g_coverMany g_leastSums g_leastPart g_now g_first q1 u5.1 u5.2 hu5) z6 0 8 rfl rfl [0, 1, 2] [] [0, 1, 2] rfl (by decide) rfl (by decide) (by decide) rfl (by decide) rfl hl.1 rfl (Nat.le_of_ble_eq_true rfl) dX8_cover_27 ⟨Nat.zero_le _, Nat.zero_le _⟩ (fun H locs hP hD hS => ?_)
      refine lv_istore_n (lv' := [(3, .int u5.1), (0, .ref a_this), (1, .int q1), (2, .int q2)]) hx hb dX8_cover_30 rfl hl (by decide) rfl (fun ls hl => ?_)
      refine lv_iload_n hx hb dX8_cover_31 rfl (lv_at hl 0 rfl) ?_
      refine lv_if_ne (tgt := 38) hx hb dX8_cover_32 (by decide) (fun c6 => ?_) (fun c6 => ?_)
      · have hf := br_neg c6 hf
        refine lv_aload_n hx hb dX8_cover_38 rfl (lv_at hl 1 rfl) ?_
        refine lv_iload_n hx hb dX8_cover_39 rfl (lv_at hl 0 rfl) ?_
        obtain ⟨u7, hu7, hf⟩ := bd_some hf
        refine caVV (rest := []) (As := [.int u5.1]) (wr := [(a_now, .inl (cZ, 164, .inl g_now))]) (wo := [(a_this, .inr (8, [.int g_length, .ref a_text, .ref a_now, .ref a_before, .int g_undoMany, .ref a_read, .int g_spot, .ref a_first, .ref a_second, .ref a_sums, .ref a_other, .int u7.1, .int u7.2, .ref a_grid, .ref a_order, .int g_leastSums, .int g_leastPart])), (a_now, .inl (cZ, 164, .inl g_now)), (a_first, .inl (cI, 41, .inl u5.2))]) ⟨hx, hb, hml, hown, hts⟩ hN hP hD hS hA (cX8_findCover_ct l D cI cL cC cZ a_this a_text a_now a_before a_read a_first a_second a_sums a_other a_grid a_order g_length g_undoMany g_spot g_step g_coverMany g_leastSums g_leastPart u5.2 u5.1 u7.1 u7.2 hu7) z7 0 8 rfl rfl [0, 2] [1] [1, 0, 2] rfl (by decide) rfl (by decide) (by decide) rfl (by decide) rfl hl.1 rfl (Nat.le_of_ble_eq_true rfl) dX8_cover_40 ⟨Nat.zero_le _, Nat.zero_le _⟩ (fun H locs hP hD hS => ?_)
        refine lv_iload_n hx hb dX8_cover_43 rfl (lv_at hl 3 rfl) ?_
        refine lv_if_ne (tgt := 56) hx hb dX8_cover_44 (by decide) (fun c8 => ?_) (fun c8 => ?_)
        · have hf := br_neg c8 hf
          refine lv_iload_n hx hb dX8_cover_56 rfl (lv_at hl 3 rfl) ?_
          refine lv_iconst (v := 1) hx hb dX8_cover_57 (by decide) ?_
          refine lv_icmp_ne (tgt := 68) hx hb dX8_cover_58 (by decide) (fun c9 => ?_) (fun c9 => ?_)
          · have hf := br_neg c9 hf
            refine lv_aload_n hx hb dX8_cover_68 rfl (lv_at hl 1 rfl) ?_
            refine va_get (D := D) (ci := 8) (v := .int u7.2) (C := RX8) (T := TX8) (N := 17) hx hb hts z4 hown hN.1 hP 0 rfl rfl 12 (by decide) z8 (fun _ h9 => h9) rfl dX8_cover_69 ?_
            have hE : (u7.2, u7.1, u7.2, u5.2) = (r0, v_step, v_coverMany, v_first) := Option.some.inj hf
            simp only [Prod.mk.injEq] at hE
            obtain ⟨rfl, rfl, rfl, rfl⟩ := hE
            exact rtI hx hb hr hlk hP hD hS dX8_cover_72
          · have hf := br_pos c9 hf
            refine lv_aload_n hx hb dX8_cover_61 rfl (lv_at hl 1 rfl) ?_
            refine va_get (D := D) (ci := 8) (v := .int u7.1) (C := RX8) (T := TX8) (N := 17) hx hb hts z4 hown hN.1 hP 0 rfl rfl 11 (by decide) z9 (fun _ h9 => h9) rfl dX8_cover_62 ?_
            refine lv_goto (tgt := 72) hx hb dX8_cover_65 (by decide) ?_
            have hE : (u7.1, u7.1, u7.2, u5.2) = (r0, v_step, v_coverMany, v_first) := Option.some.inj hf
            simp only [Prod.mk.injEq] at hE
            obtain ⟨rfl, rfl, rfl, rfl⟩ := hE
            exact rtI hx hb hr hlk hP hD hS dX8_cover_72
        · have hf := br_pos c8 hf
          refine lv_aload_n hx hb dX8_cover_47 rfl (lv_at hl 1 rfl) ?_
          refine va_get (D := D) (ci := 8) (v := .ref a_first) (C := RX8) (T := TX8) (N := 17) hx hb hts z4 hown hN.1 hP 0 rfl rfl 7 (by decide) z5 (fun _ h9 => h9) rfl dX8_cover_48 ?_
          refine lv_iconst (v := 0) hx hb dX8_cover_51 (by decide) ?_
          obtain ⟨c10, hf⟩ := gd_some hf
          refine va_iald hx hb hN.1 hP 2 0 rfl rfl (ix_in c10) dX8_cover_52 ?_
          refine lv_goto (tgt := 72) hx hb dX8_cover_53 (by decide) ?_
          have hE : (u5.2 (0 : Int32).toNatClampNeg, u7.1, u7.2, u5.2) = (r0, v_step, v_coverMany, v_first) := Option.some.inj hf
          simp only [Prod.mk.injEq] at hE
          obtain ⟨rfl, rfl, rfl, rfl⟩ := hE
          exact rtI hx hb hr hlk hP hD hS dX8_cover_72
      · have hf := br_pos c6 hf
        refine lv_bipush (v := -2) hx hb dX8_cover_35 (by decide) ?_
        have hE : ((-2 : Int32), g_step, g_coverMany, u5.2) = (r0, v_step, v_coverMany, v_first) := Option.some.inj hf
        simp only [Prod.mk.injEq] at hE
        obtain ⟨rfl, rfl, rfl, rfl⟩ := hE
        exact rtI hx hb hr hlk hP hD hS dX8_cover_37
    · have hf := br_pos c4 hf
      refine lv_iconst (v := -1) hx hb dX8_cover_19 (by decide) ?_
      have hE : ((-1 : Int32), g_step, g_coverMany, g_first) = (r0, v_step, v_coverMany, v_first) := Option.some.inj hf
      simp only [Prod.mk.injEq] at hE
      obtain ⟨rfl, rfl, rfl, rfl⟩ := hE
      exact rtI hx hb hr hlk hP hD hS dX8_cover_20
abbrev rmX8_isGrid : Room := { frames := 1, cells := 0, slots := 0, locals := 24 }
noncomputable def bX8_isGrid_111 (x1 : Int32) (x2 : Int32) (x3 : Int32) (x4 : Int32) (x5 : Int32) (x8 : Int32) (x10 : Int32) (k0 : Int32) (g_first : Nat → Int32) : Option ((Int32 × Int32) ⊕ ((Int32 × Int32) ⊕ (Int32))) := lt_ (x10 + (1 : Int32)) (fun y1 => some (Sum.inl ((k0, y1))))
noncomputable def bX8_isGrid_106 (x1 : Int32) (x2 : Int32) (x3 : Int32) (x4 : Int32) (x5 : Int32) (x8 : Int32) (x10 : Int32) (g_first : Nat → Int32) : Option ((Int32 × Int32) ⊕ ((Int32 × Int32) ⊕ (Int32))) := bX8_isGrid_111 x1 x2 x3 x4 x5 x8 x10 (1 : Int32) g_first
noncomputable def bX8_isGrid_110 (x1 : Int32) (x2 : Int32) (x3 : Int32) (x4 : Int32) (x5 : Int32) (x8 : Int32) (x10 : Int32) (g_first : Nat → Int32) : Option ((Int32 × Int32) ⊕ ((Int32 × Int32) ⊕ (Int32))) := bX8_isGrid_111 x1 x2 x3 x4 x5 x8 x10 (0 : Int32) g_first
noncomputable def bX8_isGrid_52 (x1 : Int32) (x2 : Int32) (x3 : Int32) (x4 : Int32) (x5 : Int32) (x8 : Int32) (g_first : Nat → Int32) (x9 : Int32) (x10 : Int32) : Option ((Int32 × Int32) ⊕ ((Int32 × Int32) ⊕ (Int32))) := br (x5 ≤ x10) (lt_ (x8 + (1 : Int32)) (fun y3 => some (Sum.inr (Sum.inl ((x9, y3)))))) (gd (¬ x8 < 0 ∧ x8.toNatClampNeg < 41) (gd (¬ (0 : Int32) < 0 ∧ (0 : Int32).toNatClampNeg < 41) (lt_ (((g_first x8.toNatClampNeg) - (g_first (0 : Int32).toNatClampNeg)) - (x10 * x3)) (fun y6 => br (x9 = 0) (br (y6 < 0) (bX8_isGrid_110 x1 x2 x3 x4 x5 x8 x10 g_first) (gd (¬ x2 = 0) (lt_ (y6 - y6 / x2 * x2) (fun y10 => br (y10 = 0) (gd (¬ x2 = 0) (lt_ (y6 / x2) (fun y13 => br (x4 ≤ y13) (bX8_isGrid_110 x1 x2 x3 x4 x5 x8 x10 g_first) (bX8_isGrid_106 x1 x2 x3 x4 x5 x8 x10 g_first)))) (bX8_isGrid_110 x1 x2 x3 x4 x5 x8 x10 g_first))))) (bX8_isGrid_106 x1 x2 x3 x4 x5 x8 x10 g_first)))))
noncomputable def sX8_isGrid_52 (x1 : Int32) (x2 : Int32) (x3 : Int32) (x4 : Int32) (x5 : Int32) (x8 : Int32) (g_first : Nat → Int32) : (Int32 × Int32) → Option ((Int32 × Int32) ⊕ ((Int32 × Int32) ⊕ (Int32))) := fun q => bX8_isGrid_52 x1 x2 x3 x4 x5 x8 g_first q.1 q.2
noncomputable def bX8_isGrid_35 (x1 : Int32) (x2 : Int32) (x3 : Int32) (x4 : Int32) (x5 : Int32) (g_first : Nat → Int32) (x7 : Int32) (x8 : Int32) : Option ((Int32 × Int32) ⊕ (Int32)) := br (x1 ≤ x8) (gd (x7 = 0 ∨ x7 = 1) (some (Sum.inr (x7)))) (br (x7 = 0) (gd (x7 = 0 ∨ x7 = 1) (some (Sum.inr (x7)))) (run (sX8_isGrid_52 x1 x2 x3 x4 x5 x8 g_first) (((0 : Int32), (0 : Int32)))))
noncomputable def sX8_isGrid_35 (x1 : Int32) (x2 : Int32) (x3 : Int32) (x4 : Int32) (x5 : Int32) (g_first : Nat → Int32) : (Int32 × Int32) → Option ((Int32 × Int32) ⊕ (Int32)) := fun q => bX8_isGrid_35 x1 x2 x3 x4 x5 g_first q.1 q.2
noncomputable def bX8_isGrid_30 (x1 : Int32) (x2 : Int32) (x3 : Int32) (x4 : Int32) (x5 : Int32) (k0 : Int32) (g_first : Nat → Int32) : Option (Int32) := run (sX8_isGrid_35 x1 x2 x3 x4 x5 g_first) ((k0, (0 : Int32)))
noncomputable def bX8_isGrid_25 (x1 : Int32) (x2 : Int32) (x3 : Int32) (x4 : Int32) (x5 : Int32) (g_first : Nat → Int32) : Option (Int32) := bX8_isGrid_30 x1 x2 x3 x4 x5 (1 : Int32) g_first
noncomputable def fX8_isGrid (q1 : Int32) (q2 : Int32) (q3 : Int32) (q4 : Int32) (q5 : Int32) (g_first : Nat → Int32) : Option (Int32) := bd (fX8_common q2 q3) (fun u19 => gd (¬ u19 = 0) (lt_ (q3 / u19) (fun y21 => br (q4 ≤ y21) (bX8_isGrid_25 q1 q2 q3 q4 q5 g_first) (gd (¬ u19 = 0) (lt_ (q2 / u19) (fun y24 => br (y24 < q5) (bX8_isGrid_30 q1 q2 q3 q4 q5 (0 : Int32) g_first) (bX8_isGrid_25 q1 q2 q3 q4 q5 g_first)))))))
set_option maxHeartbeats 4000000 in
set_option maxRecDepth 100000 in
theorem cX8_isGrid_ct (l : Launch) (D : va_G) (cI cL cC cZ : ClassId) (a_this a_text a_now a_before a_read a_first a_second a_sums a_other a_grid a_order : Nat) (g_length : Int32) (g_undoMany : Int32) (g_spot : Int32) (g_step : Int32) (g_coverMany : Int32) (g_leastSums : Int32) (g_leastPart : Int32) (g_first : Nat → Int32) (q1 : Int32) (q2 : Int32) (q3 : Int32) (q4 : Int32) (q5 : Int32) (r0 : Int32) (hf : fX8_isGrid q1 q2 q3 q4 q5 g_first = some r0) : CtI l yX8_isGrid wsX8_isGrid rmX8_isGrid D (tyz cI cL cC cZ) [.ref a_this, .int q1, .int q2, .int q3, .int q4, .int q5] [(a_this, .inr (8, [.int g_length, .ref a_text, .ref a_now, .ref a_before, .int g_undoMany, .ref a_read, .int g_spot, .ref a_first, .ref a_second, .ref a_sums, .ref a_other, .int g_step, .int g_coverMany, .ref a_grid, .ref a_order, .int g_leastSums, .int g_leastPart])), (a_first, .inl (cI, 41, .inl g_first))] [(a_this, .inr (8, [.int g_length, .ref a_text, .ref a_now, .ref a_before, .int g_undoMany, .ref a_read, .int g_spot, .ref a_first, .ref a_second, .ref a_sums, .ref a_other, .int g_step, .int g_coverMany, .ref a_grid, .ref a_order, .int g_leastSums, .int g_leastPart])), (a_first, .inl (cI, 41, .inl g_first))] r0 := by
  refine CtI.make (cc := cX8_isGrid) (maxL := 12) (ty := .boolean) (by decide) rfl (Nat.le_of_ble_eq_true rfl) ?_
  intro p e s m below meth c A ls C0 hN hA hP hD hl
  obtain ⟨hx, hb, hr, hml, hown, hts, hlk⟩ := id C0
  have hown : s.vm.findClass RX8 = some m.cls := hown
  have hS : va_S A s.heap s.heap [] := va_S.rf
  have hP : va_P D vwCl [(a_this, .inr (8, [.int g_length, .ref a_text, .ref a_now, .ref a_before, .int g_undoMany, .ref a_read, .int g_spot, .ref a_first, .ref a_second, .ref a_sums, .ref a_other, .int g_step, .int g_coverMany, .ref a_grid, .ref a_order, .int g_leastSums, .int g_leastPart])), (a_first, .inl (cI, 41, .inl g_first))] s.heap := hP
  have hD : va_D A [(a_this, .inr (8, [.int g_length, .ref a_text, .ref a_now, .ref a_before, .int g_undoMany, .ref a_read, .int g_spot, .ref a_first, .ref a_second, .ref a_sums, .ref a_other, .int g_step, .int g_coverMany, .ref a_grid, .ref a_order, .int g_leastSums, .int g_leastPart])), (a_first, .inl (cI, 41, .inl g_first))] := hD
  have hl : lv_has ls 12 [(0, .ref a_this), (1, .int q1), (2, .int q2), (3, .int q3), (4, .int q4), (5, .int q5)] := hl
  have z1 : ∀ w ∈ u_ws RX8 TX8 17, w ∈ wsX8_isGrid := by decide +kernel
  have z2 := hts (.fieldLink RX8 23 "LittleSumsModel" "first" "[I") (by decide +kernel)
  have z3 := va_cwS (R := rmX8_isGrid) (rm := rmX8_common) (mc := 0) (ms := 0) 2 hts gX8_isGrid_X8_common rfl rfl rfl (by decide +kernel) ⟨Nat.le_of_ble_eq_true rfl, Nat.le_of_ble_eq_true rfl⟩
  have w35 : ∀ (x1 : Int32) (x2 : Int32) (x3 : Int32) (x4 : Int32) (x5 : Int32) (g_first : Nat → Int32) (x7 : Int32) (x8 : Int32) (t : Int32) (H : Heap) (locs : List Loc) (ls : Array Slot), run (sX8_isGrid_35 x1 x2 x3 x4 x5 g_first) ((x7, x8)) = some t → (fun z => z = r0) t → va_P D vwCl [(a_this, .inr (8, [.int g_length, .ref a_text, .ref a_now, .ref a_before, .int g_undoMany, .ref a_read, .int g_spot, .ref a_first, .ref a_second, .ref a_sums, .ref a_other, .int g_step, .int g_coverMany, .ref a_grid, .ref a_order, .int g_leastSums, .int g_leastPart])), (a_first, .inl (cI, 41, .inl g_first))] H → va_D A [(a_this, .inr (8, [.int g_length, .ref a_text, .ref a_now, .ref a_before, .int g_undoMany, .ref a_read, .int g_spot, .ref a_first, .ref a_second, .ref a_sums, .ref a_other, .int g_step, .int g_coverMany, .ref a_grid, .ref a_order, .int g_leastSums, .int g_leastPart])), (a_first, .inl (cI, 41, .inl g_first))] → va_S A s.heap H locs → lv_has ls 12 [(0, .ref a_this), (1, .int x1), (2, .int x2), (3, .int x3), (4, .int x4), (5, .int x5), (7, .int x7), (8, .int x8)] → W p l e rmX8_isGrid s m ([.ref a_this, .int q1, .int q2, .int q3, .int q4, .int q5] : List Value).toArray below meth c H locs 0 0 (MQ below (cQi D r0 A [(a_this, .inr (8, [.int g_length, .ref a_text, .ref a_now, .ref a_before, .int g_undoMany, .ref a_read, .int g_spot, .ref a_first, .ref a_second, .ref a_sums, .ref a_other, .int g_step, .int g_coverMany, .ref a_grid, .ref a_order, .int g_leastSums, .int g_leastPart])), (a_first, .inl (cI, 41, .inl g_first))]) ([.ref a_this, .int q1, .int q2, .int q3, .int q4, .int q5] : List Value).toArray s 0 0 A) (F0 m 35 ls []) := by
    intro x1 x2 x3 x4 x5 g_first
    obtain ⟨F35, eF35⟩ : ∃ F : (Int32 × Int32) → Prop, F = fun q => ∀ (H : Heap) (locs : List Loc) (ls : Array Slot), va_P D vwCl [(a_this, .inr (8, [.int g_length, .ref a_text, .ref a_now, .ref a_before, .int g_undoMany, .ref a_read, .int g_spot, .ref a_first, .ref a_second, .ref a_sums, .ref a_other, .int g_step, .int g_coverMany, .ref a_grid, .ref a_order, .int g_leastSums, .int g_leastPart])), (a_first, .inl (cI, 41, .inl g_first))] H → va_D A [(a_this, .inr (8, [.int g_length, .ref a_text, .ref a_now, .ref a_before, .int g_undoMany, .ref a_read, .int g_spot, .ref a_first, .ref a_second, .ref a_sums, .ref a_other, .int g_step, .int g_coverMany, .ref a_grid, .ref a_order, .int g_leastSums, .int g_leastPart])), (a_first, .inl (cI, 41, .inl g_first))] → va_S A s.heap H locs → lv_has ls 12 [(0, .ref a_this), (1, .int x1), (2, .int x2), (3, .int x3), (4, .int x4), (5, .int x5), (7, .int q.1), (8, .int q.2)] → W p l e rmX8_isGrid s m ([.ref a_this, .int q1, .int q2, .int q3, .int q4, .int q5] : List Value).toArray below meth c H locs 0 0 (MQ below (cQi D r0 A [(a_this, .inr (8, [.int g_length, .ref a_text, .ref a_now, .ref a_before, .int g_undoMany, .ref a_read, .int g_spot, .ref a_first, .ref a_second, .ref a_sums, .ref a_other, .int g_step, .int g_coverMany, .ref a_grid, .ref a_order, .int g_leastSums, .int g_leastPart])), (a_first, .inl (cI, 41, .inl g_first))]) ([.ref a_this, .int q1, .int q2, .int q3, .int q4, .int q5] : List Value).toArray s 0 0 A) (F0 m 35 ls []) := ⟨_, rfl⟩
    have key : ∀ (q : Int32 × Int32) (t : Int32), run (sX8_isGrid_35 x1 x2 x3 x4 x5 g_first) q = some t → (fun z => z = r0) t → F35 q := by
      refine loop_rule (sX8_isGrid_35 x1 x2 x3 x4 x5 g_first) F35 (fun z => z = r0) ?_
      intro q t hf hF
      have hF : (Sum.elim F35 (fun z => z = r0)) t := hF
      have w52 : ∀ (x8 : Int32) (x9 : Int32) (x10 : Int32) (t : (Int32 × Int32) ⊕ (Int32)) (H : Heap) (locs : List Loc) (ls : Array Slot), run (sX8_isGrid_52 x1 x2 x3 x4 x5 x8 g_first) ((x9, x10)) = some t → (Sum.elim F35 (fun z => z = r0)) t → va_P D vwCl [(a_this, .inr (8, [.int g_length, .ref a_text, .ref a_now, .ref a_before, .int g_undoMany, .ref a_read, .int g_spot, .ref a_first, .ref a_second, .ref a_sums, .ref a_other, .int g_step, .int g_coverMany, .ref a_grid, .ref a_order, .int g_leastSums, .int g_leastPart])), (a_first, .inl (cI, 41, .inl g_first))] H → va_D A [(a_this, .inr (8, [.int g_length, .ref a_text, .ref a_now, .ref a_before, .int g_undoMany, .ref a_read, .int g_spot, .ref a_first, .ref a_second, .ref a_sums, .ref a_other, .int g_step, .int g_coverMany, .ref a_grid, .ref a_order, .int g_leastSums, .int g_leastPart])), (a_first, .inl (cI, 41, .inl g_first))] → va_S A s.heap H locs → lv_has ls 12 [(0, .ref a_this), (1, .int x1), (2, .int x2), (3, .int x3), (4, .int x4), (5, .int x5), (8, .int x8), (9, .int x9), (10, .int x10)] → W p l e rmX8_isGrid s m ([.ref a_this, .int q1, .int q2, .int q3, .int q4, .int q5] : List Value).toArray below meth c H locs 0 0 (MQ below (cQi D r0 A [(a_this, .inr (8, [.int g_length, .ref a_text, .ref a_now, .ref a_before, .int g_undoMany, .ref a_read, .int g_spot, .ref a_first, .ref a_second, .ref a_sums, .ref a_other, .int g_step, .int g_coverMany, .ref a_grid, .ref a_order, .int g_leastSums, .int g_leastPart])), (a_first, .inl (cI, 41, .inl g_first))]) ([.ref a_this, .int q1, .int q2, .int q3, .int q4, .int q5] : List Value).toArray s 0 0 A) (F0 m 52 ls []) := by
        intro x8
        obtain ⟨F52, eF52⟩ : ∃ F : (Int32 × Int32) → Prop, F = fun q => ∀ (H : Heap) (locs : List Loc) (ls : Array Slot), va_P D vwCl [(a_this, .inr (8, [.int g_length, .ref a_text, .ref a_now, .ref a_before, .int g_undoMany, .ref a_read, .int g_spot, .ref a_first, .ref a_second, .ref a_sums, .ref a_other, .int g_step, .int g_coverMany, .ref a_grid, .ref a_order, .int g_leastSums, .int g_leastPart])), (a_first, .inl (cI, 41, .inl g_first))] H → va_D A [(a_this, .inr (8, [.int g_length, .ref a_text, .ref a_now, .ref a_before, .int g_undoMany, .ref a_read, .int g_spot, .ref a_first, .ref a_second, .ref a_sums, .ref a_other, .int g_step, .int g_coverMany, .ref a_grid, .ref a_order, .int g_leastSums, .int g_leastPart])), (a_first, .inl (cI, 41, .inl g_first))] → va_S A s.heap H locs → lv_has ls 12 [(0, .ref a_this), (1, .int x1), (2, .int x2), (3, .int x3), (4, .int x4), (5, .int x5), (8, .int x8), (9, .int q.1), (10, .int q.2)] → W p l e rmX8_isGrid s m ([.ref a_this, .int q1, .int q2, .int q3, .int q4, .int q5] : List Value).toArray below meth c H locs 0 0 (MQ below (cQi D r0 A [(a_this, .inr (8, [.int g_length, .ref a_text, .ref a_now, .ref a_before, .int g_undoMany, .ref a_read, .int g_spot, .ref a_first, .ref a_second, .ref a_sums, .ref a_other, .int g_step, .int g_coverMany, .ref a_grid, .ref a_order, .int g_leastSums, .int g_leastPart])), (a_first, .inl (cI, 41, .inl g_first))]) ([.ref a_this, .int q1, .int q2, .int q3, .int q4, .int q5] : List Value).toArray s 0 0 A) (F0 m 52 ls []) := ⟨_, rfl⟩
        have key : ∀ (q : Int32 × Int32) (t : (Int32 × Int32) ⊕ (Int32)), run (sX8_isGrid_52 x1 x2 x3 x4 x5 x8 g_first) q = some t → (Sum.elim F35 (fun z => z = r0)) t → F52 q := by
          refine loop_rule (sX8_isGrid_52 x1 x2 x3 x4 x5 x8 g_first) F52 (Sum.elim F35 (fun z => z = r0)) ?_
          intro q t hf hF
          have hF : (Sum.elim F52 (Sum.elim F35 (fun z => z = r0))) t := hF
          have w111 : ∀ (x10 : Int32) (k0 : Int32) (t : (Int32 × Int32) ⊕ ((Int32 × Int32) ⊕ (Int32))) (H : Heap) (locs : List Loc) (ls : Array Slot), bX8_isGrid_111 x1 x2 x3 x4 x5 x8 x10 k0 g_first = some t → (Sum.elim F52 (Sum.elim F35 (fun z => z = r0))) t → va_P D vwCl [(a_this, .inr (8, [.int g_length, .ref a_text, .ref a_now, .ref a_before, .int g_undoMany, .ref a_read, .int g_spot, .ref a_first, .ref a_second, .ref a_sums, .ref a_other, .int g_step, .int g_coverMany, .ref a_grid, .ref a_order, .int g_leastSums, .int g_leastPart])), (a_first, .inl (cI, 41, .inl g_first))] H → va_D A [(a_this, .inr (8, [.int g_length, .ref a_text, .ref a_now, .ref a_before, .int g_undoMany, .ref a_read, .int g_spot, .ref a_first, .ref a_second, .ref a_sums, .ref a_other, .int g_step, .int g_coverMany, .ref a_grid, .ref a_order, .int g_leastSums, .int g_leastPart])), (a_first, .inl (cI, 41, .inl g_first))] → va_S A s.heap H locs → lv_has ls 12 [(0, .ref a_this), (1, .int x1), (2, .int x2), (3, .int x3), (4, .int x4), (5, .int x5), (8, .int x8), (10, .int x10)] → W p l e rmX8_isGrid s m ([.ref a_this, .int q1, .int q2, .int q3, .int q4, .int q5] : List Value).toArray below meth c H locs 0 0 (MQ below (cQi D r0 A [(a_this, .inr (8, [.int g_length, .ref a_text, .ref a_now, .ref a_before, .int g_undoMany, .ref a_read, .int g_spot, .ref a_first, .ref a_second, .ref a_sums, .ref a_other, .int g_step, .int g_coverMany, .ref a_grid, .ref a_order, .int g_leastSums, .int g_leastPart])), (a_first, .inl (cI, 41, .inl g_first))]) ([.ref a_this, .int q1, .int q2, .int q3, .int q4, .int q5] : List Value).toArray s 0 0 A) (F0 m 111 ls [.int k0]) := by
            intro x10 k0 t H locs ls hf hF hP hD hS hl
            unfold bX8_isGrid_111 at hf
            refine lv_istore (lv' := [(9, .int k0), (0, .ref a_this), (1, .int x1), (2, .int x2), (3, .int x3), (4, .int x4), (5, .int x5), (8, .int x8), (10, .int x10)]) hx hb dX8_isGrid_111 hl (by decide) rfl (fun ls hl => ?_)
            obtain ⟨y1, ey1⟩ : ∃ z : Int32, z = x10 + (1 : Int32) := ⟨_, rfl⟩
            have hf := lt_some hf y1 ey1
            refine lv_iinc (v := y1) (lv' := [(10, .int y1), (9, .int k0), (0, .ref a_this), (1, .int x1), (2, .int x2), (3, .int x3), (4, .int x4), (5, .int x5), (8, .int x8)]) hx hb dX8_isGrid_113 hl (k := 8) rfl (by rw [ey1]; rfl) (by decide) rfl (fun ls hl => ?_)
            refine lv_goto (tgt := 52) hx hb dX8_isGrid_116 (by decide) ?_
            cases hf
            exact ((congrFun eF52 _).mp hF) H locs ls hP hD hS (lv_sub hl [2, 3, 4, 5, 6, 7, 8, 1, 0] rfl)
          have w106 : ∀ (x10 : Int32) (t : (Int32 × Int32) ⊕ ((Int32 × Int32) ⊕ (Int32))) (H : Heap) (locs : List Loc) (ls : Array Slot), bX8_isGrid_106 x1 x2 x3 x4 x5 x8 x10 g_first = some t → (Sum.elim F52 (Sum.elim F35 (fun z => z = r0))) t → va_P D vwCl [(a_this, .inr (8, [.int g_length, .ref a_text, .ref a_now, .ref a_before, .int g_undoMany, .ref a_read, .int g_spot, .ref a_first, .ref a_second, .ref a_sums, .ref a_other, .int g_step, .int g_coverMany, .ref a_grid, .ref a_order, .int g_leastSums, .int g_leastPart])), (a_first, .inl (cI, 41, .inl g_first))] H → va_D A [(a_this, .inr (8, [.int g_length, .ref a_text, .ref a_now, .ref a_before, .int g_undoMany, .ref a_read, .int g_spot, .ref a_first, .ref a_second, .ref a_sums, .ref a_other, .int g_step, .int g_coverMany, .ref a_grid, .ref a_order, .int g_leastSums, .int g_leastPart])), (a_first, .inl (cI, 41, .inl g_first))] → va_S A s.heap H locs → lv_has ls 12 [(0, .ref a_this), (1, .int x1), (2, .int x2), (3, .int x3), (4, .int x4), (5, .int x5), (8, .int x8), (10, .int x10)] → W p l e rmX8_isGrid s m ([.ref a_this, .int q1, .int q2, .int q3, .int q4, .int q5] : List Value).toArray below meth c H locs 0 0 (MQ below (cQi D r0 A [(a_this, .inr (8, [.int g_length, .ref a_text, .ref a_now, .ref a_before, .int g_undoMany, .ref a_read, .int g_spot, .ref a_first, .ref a_second, .ref a_sums, .ref a_other, .int g_step, .int g_coverMany, .ref a_grid, .ref a_order, .int g_leastSums, .int g_leastPart])), (a_first, .inl (cI, 41, .inl g_first))]) ([.ref a_this, .int q1, .int q2, .int q3, .int q4, .int q5] : List Value).toArray s 0 0 A) (F0 m 106 ls []) := by
            intro x10 t H locs ls hf hF hP hD hS hl
            unfold bX8_isGrid_106 at hf
            refine lv_iconst (v := 1) hx hb dX8_isGrid_106 (by decide) ?_
            refine lv_goto (tgt := 111) hx hb dX8_isGrid_107 (by decide) ?_
            exact w111 x10 (1 : Int32) _ H locs ls hf hF hP hD hS (lv_sub hl [0, 1, 2, 3, 4, 5, 6, 7] rfl)
          have w110 : ∀ (x10 : Int32) (t : (Int32 × Int32) ⊕ ((Int32 × Int32) ⊕ (Int32))) (H : Heap) (locs : List Loc) (ls : Array Slot), bX8_isGrid_110 x1 x2 x3 x4 x5 x8 x10 g_first = some t → (Sum.elim F52 (Sum.elim F35 (fun z => z = r0))) t → va_P D vwCl [(a_this, .inr (8, [.int g_length, .ref a_text, .ref a_now, .ref a_before, .int g_undoMany, .ref a_read, .int g_spot, .ref a_first, .ref a_second, .ref a_sums, .ref a_other, .int g_step, .int g_coverMany, .ref a_grid, .ref a_order, .int g_leastSums, .int g_leastPart])), (a_first, .inl (cI, 41, .inl g_first))] H → va_D A [(a_this, .inr (8, [.int g_length, .ref a_text, .ref a_now, .ref a_before, .int g_undoMany, .ref a_read, .int g_spot, .ref a_first, .ref a_second, .ref a_sums, .ref a_other, .int g_step, .int g_coverMany, .ref a_grid, .ref a_order, .int g_leastSums, .int g_leastPart])), (a_first, .inl (cI, 41, .inl g_first))] → va_S A s.heap H locs → lv_has ls 12 [(0, .ref a_this), (1, .int x1), (2, .int x2), (3, .int x3), (4, .int x4), (5, .int x5), (8, .int x8), (10, .int x10)] → W p l e rmX8_isGrid s m ([.ref a_this, .int q1, .int q2, .int q3, .int q4, .int q5] : List Value).toArray below meth c H locs 0 0 (MQ below (cQi D r0 A [(a_this, .inr (8, [.int g_length, .ref a_text, .ref a_now, .ref a_before, .int g_undoMany, .ref a_read, .int g_spot, .ref a_first, .ref a_second, .ref a_sums, .ref a_other, .int g_step, .int g_coverMany, .ref a_grid, .ref a_order, .int g_leastSums, .int g_leastPart])), (a_first, .inl (cI, 41, .inl g_first))]) ([.ref a_this, .int q1, .int q2, .int q3, .int q4, .int q5] : List Value).toArray s 0 0 A) (F0 m 110 ls []) := by
            intro x10 t H locs ls hf hF hP hD hS hl
            unfold bX8_isGrid_110 at hf
            refine lv_iconst (v := 0) hx hb dX8_isGrid_110 (by decide) ?_
            exact w111 x10 (0 : Int32) _ H locs ls hf hF hP hD hS (lv_sub hl [0, 1, 2, 3, 4, 5, 6, 7] rfl)
          rw [eF52]
          obtain ⟨x9, x10⟩ := q
          intro H locs ls hP hD hS hl
          have hP : va_P D vwCl [(a_this, .inr (8, [.int g_length, .ref a_text, .ref a_now, .ref a_before, .int g_undoMany, .ref a_read, .int g_spot, .ref a_first, .ref a_second, .ref a_sums, .ref a_other, .int g_step, .int g_coverMany, .ref a_grid, .ref a_order, .int g_leastSums, .int g_leastPart])), (a_first, .inl (cI, 41, .inl g_first))] H := hP
          have hD : va_D A [(a_this, .inr (8, [.int g_length, .ref a_text, .ref a_now, .ref a_before, .int g_undoMany, .ref a_read, .int g_spot, .ref a_first, .ref a_second, .ref a_sums, .ref a_other, .int g_step, .int g_coverMany, .ref a_grid, .ref a_order, .int g_leastSums, .int g_leastPart])), (a_first, .inl (cI, 41, .inl g_first))] := hD
          have hl : lv_has ls 12 [(0, .ref a_this), (1, .int x1), (2, .int x2), (3, .int x3), (4, .int x4), (5, .int x5), (8, .int x8), (9, .int x9), (10, .int x10)] := hl
          have hf : bX8_isGrid_52 x1 x2 x3 x4 x5 x8 g_first x9 x10 = some t := hf
          unfold bX8_isGrid_52 at hf
          refine lv_iload hx hb dX8_isGrid_52 (lv_at hl 8 rfl) ?_
          refine lv_iload hx hb dX8_isGrid_54 (lv_at hl 5 rfl) ?_
          refine lv_icmp_ge (tgt := 119) hx hb dX8_isGrid_56 (by decide) (fun c2 => ?_) (fun c2 => ?_)
          · have hf := br_pos c2 hf
            refine lv_iload hx hb dX8_isGrid_119 (lv_at hl 7 rfl) ?_
            refine lv_istore (lv' := [(7, .int x9), (0, .ref a_this), (1, .int x1), (2, .int x2), (3, .int x3), (4, .int x4), (5, .int x5), (8, .int x8), (9, .int x9), (10, .int x10)]) hx hb dX8_isGrid_121 hl (by decide) rfl (fun ls hl => ?_)
            obtain ⟨y3, ey3⟩ : ∃ z : Int32, z = x8 + (1 : Int32) := ⟨_, rfl⟩
            have hf := lt_some hf y3 ey3
            refine lv_iinc (v := y3) (lv' := [(8, .int y3), (7, .int x9), (0, .ref a_this), (1, .int x1), (2, .int x2), (3, .int x3), (4, .int x4), (5, .int x5), (9, .int x9), (10, .int x10)]) hx hb dX8_isGrid_123 hl (k := 7) rfl (by rw [ey3]; rfl) (by decide) rfl (fun ls hl => ?_)
            refine lv_goto (tgt := 35) hx hb dX8_isGrid_126 (by decide) ?_
            cases hf
            exact ((congrFun eF35 _).mp hF) H locs ls hP hD hS (lv_sub hl [2, 3, 4, 5, 6, 7, 1, 0] rfl)
          · have hf := br_neg c2 hf
            refine lv_aload_n hx hb dX8_isGrid_59 rfl (lv_at hl 0 rfl) ?_
            refine va_get (D := D) (ci := 8) (v := .ref a_first) (C := RX8) (T := TX8) (N := 17) hx hb hts z1 hown hN.1 hP 0 rfl rfl 7 (by decide) z2 (fun _ h9 => h9) rfl dX8_isGrid_60 ?_
            refine lv_iload hx hb dX8_isGrid_63 (lv_at hl 6 rfl) ?_
            obtain ⟨c4, hf⟩ := gd_some hf
            refine va_iald hx hb hN.1 hP 1 0 rfl rfl (ix_in c4) dX8_isGrid_65 ?_
            refine lv_aload_n hx hb dX8_isGrid_66 rfl (lv_at hl 0 rfl) ?_
            refine va_get (D := D) (ci := 8) (v := .ref a_first) (C := RX8) (T := TX8) (N := 17) hx hb hts z1 hown hN.1 hP 0 rfl rfl 7 (by decide) z2 (fun _ h9 => h9) rfl dX8_isGrid_67 ?_
            refine lv_iconst (v := 0) hx hb dX8_isGrid_70 (by decide) ?_
            obtain ⟨c5, hf⟩ := gd_some hf
            refine va_iald hx hb hN.1 hP 1 0 rfl rfl (ix_in c5) dX8_isGrid_71 ?_
            refine lv_isub hx hb dX8_isGrid_72 ?_
            refine lv_iload hx hb dX8_isGrid_73 (lv_at hl 8 rfl) ?_
            refine lv_iload_n hx hb dX8_isGrid_75 rfl (lv_at hl 3 rfl) ?_
            refine lv_imul hx hb dX8_isGrid_76 ?_
            refine lv_isub hx hb dX8_isGrid_77 ?_
            refine lv_topi (fun y6 ey6 => ?_)
            have hf := lt_some hf y6 ey6
            refine lv_istore (lv' := [(11, .int y6), (0, .ref a_this), (1, .int x1), (2, .int x2), (3, .int x3), (4, .int x4), (5, .int x5), (8, .int x8), (9, .int x9), (10, .int x10)]) hx hb dX8_isGrid_78 hl (by decide) rfl (fun ls hl => ?_)
            refine lv_iload hx hb dX8_isGrid_80 (lv_at hl 8 rfl) ?_
            refine lv_if_ne (tgt := 106) hx hb dX8_isGrid_82 (by decide) (fun c7 => ?_) (fun c7 => ?_)
            · have hf := br_neg c7 hf
              exact w106 x10 _ H locs ls hf hF hP hD hS (lv_sub hl [1, 2, 3, 4, 5, 6, 7, 9] rfl)
            · have hf := br_pos c7 hf
              refine lv_iload hx hb dX8_isGrid_85 (lv_at hl 0 rfl) ?_
              refine lv_if_lt (tgt := 110) hx hb dX8_isGrid_87 (by decide) (fun c8 => ?_) (fun c8 => ?_)
              · have hf := br_pos c8 hf
                exact w110 x10 _ H locs ls hf hF hP hD hS (lv_sub hl [1, 2, 3, 4, 5, 6, 7, 9] rfl)
              · have hf := br_neg c8 hf
                refine lv_iload hx hb dX8_isGrid_90 (lv_at hl 0 rfl) ?_
                refine lv_iload_n hx hb dX8_isGrid_92 rfl (lv_at hl 3 rfl) ?_
                obtain ⟨c9, hf⟩ := gd_some hf
                refine lv_irem hx hb dX8_isGrid_93 c9 ?_
                refine lv_topi (fun y10 ey10 => ?_)
                have hf := lt_some hf y10 ey10
                refine lv_if_ne (tgt := 110) hx hb dX8_isGrid_94 (by decide) (fun c11 => ?_) (fun c11 => ?_)
                · have hf := br_neg c11 hf
                  exact w110 x10 _ H locs ls hf hF hP hD hS (lv_sub hl [1, 2, 3, 4, 5, 6, 7, 9] rfl)
                · have hf := br_pos c11 hf
                  refine lv_iload hx hb dX8_isGrid_97 (lv_at hl 0 rfl) ?_
                  refine lv_iload_n hx hb dX8_isGrid_99 rfl (lv_at hl 3 rfl) ?_
                  obtain ⟨c12, hf⟩ := gd_some hf
                  refine lv_idiv hx hb dX8_isGrid_100 c12 ?_
                  refine lv_topi (fun y13 ey13 => ?_)
                  have hf := lt_some hf y13 ey13
                  refine lv_iload hx hb dX8_isGrid_101 (lv_at hl 5 rfl) ?_
                  refine lv_icmp_ge (tgt := 110) hx hb dX8_isGrid_103 (by decide) (fun c14 => ?_) (fun c14 => ?_)
                  · have hf := br_pos c14 hf
                    exact w110 x10 _ H locs ls hf hF hP hD hS (lv_sub hl [1, 2, 3, 4, 5, 6, 7, 9] rfl)
                  · have hf := br_neg c14 hf
                    exact w106 x10 _ H locs ls hf hF hP hD hS (lv_sub hl [1, 2, 3, 4, 5, 6, 7, 9] rfl)
        intro x9 x10 t H locs ls hf hF hP hD hS hl
        exact ((congrFun eF52 _).mp (key ((x9, x10)) t hf hF)) H locs ls hP hD hS hl
      rw [eF35]
      obtain ⟨x7, x8⟩ := q
      intro H locs ls hP hD hS hl
      have hP : va_P D vwCl [(a_this, .inr (8, [.int g_length, .ref a_text, .ref a_now, .ref a_before, .int g_undoMany, .ref a_read, .int g_spot, .ref a_first, .ref a_second, .ref a_sums, .ref a_other, .int g_step, .int g_coverMany, .ref a_grid, .ref a_order, .int g_leastSums, .int g_leastPart])), (a_first, .inl (cI, 41, .inl g_first))] H := hP
      have hD : va_D A [(a_this, .inr (8, [.int g_length, .ref a_text, .ref a_now, .ref a_before, .int g_undoMany, .ref a_read, .int g_spot, .ref a_first, .ref a_second, .ref a_sums, .ref a_other, .int g_step, .int g_coverMany, .ref a_grid, .ref a_order, .int g_leastSums, .int g_leastPart])), (a_first, .inl (cI, 41, .inl g_first))] := hD
      have hl : lv_has ls 12 [(0, .ref a_this), (1, .int x1), (2, .int x2), (3, .int x3), (4, .int x4), (5, .int x5), (7, .int x7), (8, .int x8)] := hl
      have hf : bX8_isGrid_35 x1 x2 x3 x4 x5 g_first x7 x8 = some t := hf
      unfold bX8_isGrid_35 at hf
      refine lv_iload hx hb dX8_isGrid_35 (lv_at hl 7 rfl) ?_
      refine lv_iload_n hx hb dX8_isGrid_37 rfl (lv_at hl 1 rfl) ?_
      refine lv_icmp_ge (tgt := 129) hx hb dX8_isGrid_38 (by decide) (fun c15 => ?_) (fun c15 => ?_)
      · have hf := br_pos c15 hf
        refine lv_iload hx hb dX8_isGrid_129 (lv_at hl 6 rfl) ?_
        obtain ⟨c16, hf⟩ := gd_some hf
        cases hf
        have hE : x7 = r0 := hF
        subst hE
        exact rtZ hx hb hr hlk c16 hP hD hS dX8_isGrid_131
      · have hf := br_neg c15 hf
        refine lv_iload hx hb dX8_isGrid_41 (lv_at hl 6 rfl) ?_
        refine lv_if_eq (tgt := 129) hx hb dX8_isGrid_43 (by decide) (fun c17 => ?_) (fun c17 => ?_)
        · have hf := br_pos c17 hf
          refine lv_iload hx hb dX8_isGrid_129 (lv_at hl 6 rfl) ?_
          obtain ⟨c18, hf⟩ := gd_some hf
          cases hf
          have hE : x7 = r0 := hF
          subst hE
          exact rtZ hx hb hr hlk c18 hP hD hS dX8_isGrid_131
        · have hf := br_neg c17 hf
          refine lv_iconst (v := 0) hx hb dX8_isGrid_46 (by decide) ?_
          refine lv_istore (lv' := [(9, .int (0 : Int32)), (0, .ref a_this), (1, .int x1), (2, .int x2), (3, .int x3), (4, .int x4), (5, .int x5), (7, .int x7), (8, .int x8)]) hx hb dX8_isGrid_47 hl (by decide) rfl (fun ls hl => ?_)
          refine lv_iconst (v := 0) hx hb dX8_isGrid_49 (by decide) ?_
          refine lv_istore (lv' := [(10, .int (0 : Int32)), (9, .int (0 : Int32)), (0, .ref a_this), (1, .int x1), (2, .int x2), (3, .int x3), (4, .int x4), (5, .int x5), (7, .int x7), (8, .int x8)]) hx hb dX8_isGrid_50 hl (by decide) rfl (fun ls hl => ?_)
          exact w52 x8 (0 : Int32) (0 : Int32) _ H locs ls hf hF hP hD hS (lv_sub hl [2, 3, 4, 5, 6, 7, 9, 1, 0] rfl)
    intro x7 x8 t H locs ls hf hF hP hD hS hl
    exact ((congrFun eF35 _).mp (key ((x7, x8)) t hf hF)) H locs ls hP hD hS hl
  have w30 : ∀ (x1 : Int32) (x2 : Int32) (x3 : Int32) (x4 : Int32) (x5 : Int32) (k0 : Int32) (g_first : Nat → Int32) (H : Heap) (locs : List Loc) (ls : Array Slot), bX8_isGrid_30 x1 x2 x3 x4 x5 k0 g_first = some r0 → va_P D vwCl [(a_this, .inr (8, [.int g_length, .ref a_text, .ref a_now, .ref a_before, .int g_undoMany, .ref a_read, .int g_spot, .ref a_first, .ref a_second, .ref a_sums, .ref a_other, .int g_step, .int g_coverMany, .ref a_grid, .ref a_order, .int g_leastSums, .int g_leastPart])), (a_first, .inl (cI, 41, .inl g_first))] H → va_D A [(a_this, .inr (8, [.int g_length, .ref a_text, .ref a_now, .ref a_before, .int g_undoMany, .ref a_read, .int g_spot, .ref a_first, .ref a_second, .ref a_sums, .ref a_other, .int g_step, .int g_coverMany, .ref a_grid, .ref a_order, .int g_leastSums, .int g_leastPart])), (a_first, .inl (cI, 41, .inl g_first))] → va_S A s.heap H locs → lv_has ls 12 [(0, .ref a_this), (1, .int x1), (2, .int x2), (3, .int x3), (4, .int x4), (5, .int x5)] → W p l e rmX8_isGrid s m ([.ref a_this, .int q1, .int q2, .int q3, .int q4, .int q5] : List Value).toArray below meth c H locs 0 0 (MQ below (cQi D r0 A [(a_this, .inr (8, [.int g_length, .ref a_text, .ref a_now, .ref a_before, .int g_undoMany, .ref a_read, .int g_spot, .ref a_first, .ref a_second, .ref a_sums, .ref a_other, .int g_step, .int g_coverMany, .ref a_grid, .ref a_order, .int g_leastSums, .int g_leastPart])), (a_first, .inl (cI, 41, .inl g_first))]) ([.ref a_this, .int q1, .int q2, .int q3, .int q4, .int q5] : List Value).toArray s 0 0 A) (F0 m 30 ls [.int k0]) := by
    intro x1 x2 x3 x4 x5 k0 g_first H locs ls hf hP hD hS hl
    unfold bX8_isGrid_30 at hf
    refine lv_istore (lv' := [(7, .int k0), (0, .ref a_this), (1, .int x1), (2, .int x2), (3, .int x3), (4, .int x4), (5, .int x5)]) hx hb dX8_isGrid_30 hl (by decide) rfl (fun ls hl => ?_)
    refine lv_iconst (v := 0) hx hb dX8_isGrid_32 (by decide) ?_
    refine lv_istore (lv' := [(8, .int (0 : Int32)), (7, .int k0), (0, .ref a_this), (1, .int x1), (2, .int x2), (3, .int x3), (4, .int x4), (5, .int x5)]) hx hb dX8_isGrid_33 hl (by decide) rfl (fun ls hl => ?_)
    exact w35 x1 x2 x3 x4 x5 g_first k0 (0 : Int32) r0 H locs ls hf rfl hP hD hS (lv_sub hl [2, 3, 4, 5, 6, 7, 1, 0] rfl)
  have w25 : ∀ (x1 : Int32) (x2 : Int32) (x3 : Int32) (x4 : Int32) (x5 : Int32) (g_first : Nat → Int32) (H : Heap) (locs : List Loc) (ls : Array Slot), bX8_isGrid_25 x1 x2 x3 x4 x5 g_first = some r0 → va_P D vwCl [(a_this, .inr (8, [.int g_length, .ref a_text, .ref a_now, .ref a_before, .int g_undoMany, .ref a_read, .int g_spot, .ref a_first, .ref a_second, .ref a_sums, .ref a_other, .int g_step, .int g_coverMany, .ref a_grid, .ref a_order, .int g_leastSums, .int g_leastPart])), (a_first, .inl (cI, 41, .inl g_first))] H → va_D A [(a_this, .inr (8, [.int g_length, .ref a_text, .ref a_now, .ref a_before, .int g_undoMany, .ref a_read, .int g_spot, .ref a_first, .ref a_second, .ref a_sums, .ref a_other, .int g_step, .int g_coverMany, .ref a_grid, .ref a_order, .int g_leastSums, .int g_leastPart])), (a_first, .inl (cI, 41, .inl g_first))] → va_S A s.heap H locs → lv_has ls 12 [(0, .ref a_this), (1, .int x1), (2, .int x2), (3, .int x3), (4, .int x4), (5, .int x5)] → W p l e rmX8_isGrid s m ([.ref a_this, .int q1, .int q2, .int q3, .int q4, .int q5] : List Value).toArray below meth c H locs 0 0 (MQ below (cQi D r0 A [(a_this, .inr (8, [.int g_length, .ref a_text, .ref a_now, .ref a_before, .int g_undoMany, .ref a_read, .int g_spot, .ref a_first, .ref a_second, .ref a_sums, .ref a_other, .int g_step, .int g_coverMany, .ref a_grid, .ref a_order, .int g_leastSums, .int g_leastPart])), (a_first, .inl (cI, 41, .inl g_first))]) ([.ref a_this, .int q1, .int q2, .int q3, .int q4, .int q5] : List Value).toArray s 0 0 A) (F0 m 25 ls []) := by
    intro x1 x2 x3 x4 x5 g_first H locs ls hf hP hD hS hl
    unfold bX8_isGrid_25 at hf
    refine lv_iconst (v := 1) hx hb dX8_isGrid_25 (by decide) ?_
    refine lv_goto (tgt := 30) hx hb dX8_isGrid_26 (by decide) ?_
    exact w30 x1 x2 x3 x4 x5 (1 : Int32) g_first H locs ls hf hP hD hS (lv_sub hl [0, 1, 2, 3, 4, 5] rfl)
  unfold fX8_isGrid at hf
  obtain ⟨H, eH⟩ : ∃ z, z = s.heap := ⟨_, rfl⟩
  obtain ⟨locs, eL⟩ : ∃ z : List Loc, z = [] := ⟨_, rfl⟩
  have hP : va_P D vwCl [(a_this, .inr (8, [.int g_length, .ref a_text, .ref a_now, .ref a_before, .int g_undoMany, .ref a_read, .int g_spot, .ref a_first, .ref a_second, .ref a_sums, .ref a_other, .int g_step, .int g_coverMany, .ref a_grid, .ref a_order, .int g_leastSums, .int g_leastPart])), (a_first, .inl (cI, 41, .inl g_first))] H := by rw [eH]; exact hP
  have hS : va_S A s.heap H locs := by rw [eH, eL]; exact hS
  suffices hG : W p l e rmX8_isGrid s m ([.ref a_this, .int q1, .int q2, .int q3, .int q4, .int q5] : List Value).toArray below meth c H locs 0 0 (MQ below (cQi D r0 A [(a_this, .inr (8, [.int g_length, .ref a_text, .ref a_now, .ref a_before, .int g_undoMany, .ref a_read, .int g_spot, .ref a_first, .ref a_second, .ref a_sums, .ref a_other, .int g_step, .int g_coverMany, .ref a_grid, .ref a_order, .int g_leastSums, .int g_leastPart])), (a_first, .inl (cI, 41, .inl g_first))]) ([.ref a_this, .int q1, .int q2, .int q3, .int q4, .int q5] : List Value).toArray s 0 0 A) (F0 m 0 ls []) by rw [eH, eL] at hG; exact hG
  refine lv_iload_n hx hb dX8_isGrid_0 rfl (lv_at hl 2 rfl) ?_
  refine lv_iload_n hx hb dX8_isGrid_1 rfl (lv_at hl 3 rfl) ?_
  obtain ⟨u19, hu19, hf⟩ := bd_some hf
  refine caSI (rest := []) (As := [.int q2, .int q3]) (wr := [(a_this, .inr (8, [.int g_length, .ref a_text, .ref a_now, .ref a_before, .int g_undoMany, .ref a_read, .int g_spot, .ref a_first, .ref a_second, .ref a_sums, .ref a_other, .int g_step, .int g_coverMany, .ref a_grid, .ref a_order, .int g_leastSums, .int g_leastPart])), (a_first, .inl (cI, 41, .inl g_first))]) (wo := [(a_this, .inr (8, [.int g_length, .ref a_text, .ref a_now, .ref a_before, .int g_undoMany, .ref a_read, .int g_spot, .ref a_first, .ref a_second, .ref a_sums, .ref a_other, .int g_step, .int g_coverMany, .ref a_grid, .ref a_order, .int g_leastSums, .int g_leastPart])), (a_first, .inl (cI, 41, .inl g_first))]) ⟨hx, hb, hml, hown, hts⟩ hN hP hD hS hA (cX8_common_ct l D cI cL cC cZ q2 q3 u19 hu19) z3 [] [0, 1] [0, 1] rfl (by decide) rfl (by decide) (by decide) rfl (by decide) rfl hl.1 rfl (Nat.le_of_ble_eq_true rfl) dX8_isGrid_2 ⟨Nat.zero_le _, Nat.zero_le _⟩ (fun H locs hP hD hS => ?_)
  refine lv_istore (lv' := [(6, .int u19), (0, .ref a_this), (1, .int q1), (2, .int q2), (3, .int q3), (4, .int q4), (5, .int q5)]) hx hb dX8_isGrid_5 hl (by decide) rfl (fun ls hl => ?_)
  refine lv_iload_n hx hb dX8_isGrid_7 rfl (lv_at hl 4 rfl) ?_
  refine lv_iload hx hb dX8_isGrid_8 (lv_at hl 0 rfl) ?_
  obtain ⟨c20, hf⟩ := gd_some hf
  refine lv_idiv hx hb dX8_isGrid_10 c20 ?_
  refine lv_topi (fun y21 ey21 => ?_)
  have hf := lt_some hf y21 ey21
  refine lv_iload hx hb dX8_isGrid_11 (lv_at hl 5 rfl) ?_
  refine lv_icmp_ge (tgt := 25) hx hb dX8_isGrid_13 (by decide) (fun c22 => ?_) (fun c22 => ?_)
  · have hf := br_pos c22 hf
    exact w25 q1 q2 q3 q4 q5 g_first H locs ls hf hP hD hS (lv_sub hl [1, 2, 3, 4, 5, 6] rfl)
  · have hf := br_neg c22 hf
    refine lv_iload_n hx hb dX8_isGrid_16 rfl (lv_at hl 3 rfl) ?_
    refine lv_iload hx hb dX8_isGrid_17 (lv_at hl 0 rfl) ?_
    obtain ⟨c23, hf⟩ := gd_some hf
    refine lv_idiv hx hb dX8_isGrid_19 c23 ?_
    refine lv_topi (fun y24 ey24 => ?_)
    have hf := lt_some hf y24 ey24
    refine lv_iload hx hb dX8_isGrid_20 (lv_at hl 6 rfl) ?_
    refine lv_icmp_lt (tgt := 29) hx hb dX8_isGrid_22 (by decide) (fun c25 => ?_) (fun c25 => ?_)
    · have hf := br_pos c25 hf
      refine lv_iconst (v := 0) hx hb dX8_isGrid_29 (by decide) ?_
      exact w30 q1 q2 q3 q4 q5 (0 : Int32) g_first H locs ls hf hP hD hS (lv_sub hl [1, 2, 3, 4, 5, 6] rfl)
    · have hf := br_neg c25 hf
      exact w25 q1 q2 q3 q4 q5 g_first H locs ls hf hP hD hS (lv_sub hl [1, 2, 3, 4, 5, 6] rfl)
abbrev rmX8_findGrid : Room := { frames := 2, cells := 0, slots := 0, locals := 55 }
noncomputable def bX8_findGrid_145 (x1 : Int32) (x2 : Int32) (x3 : Int32) (x4 : Int32) (x5 : Int32) (x6 : Int32) (g_first : Nat → Int32) (g_grid : Nat → Int32) : Option ((Int32 × Int32 × (Nat → Int32)) ⊕ ((Int32 × Int32 × (Nat → Int32)) ⊕ ((Int32 × Int32 × (Nat → Int32)) ⊕ (Int32 × (Nat → Int32))))) := lt_ (x6 + (1 : Int32)) (fun y1 => some (Sum.inl ((x2, y1, g_grid))))
noncomputable def bX8_findGrid_139 (x1 : Int32) (x2 : Int32) (x3 : Int32) (x4 : Int32) (x5 : Int32) (x6 : Int32) (x7 : Int32) (g_first : Nat → Int32) (g_grid : Nat → Int32) : Option ((Int32 × Int32 × (Nat → Int32)) ⊕ ((Int32 × Int32 × (Nat → Int32)) ⊕ ((Int32 × Int32 × (Nat → Int32)) ⊕ ((Int32 × Int32 × (Nat → Int32)) ⊕ (Int32 × (Nat → Int32)))))) := lt_ (x7 + (1 : Int32)) (fun y2 => some (Sum.inl ((x2, y2, g_grid))))
noncomputable def bX8_findGrid_57 (x1 : Int32) (x3 : Int32) (x4 : Int32) (x5 : Int32) (x6 : Int32) (g_first : Nat → Int32) (x2 : Int32) (x7 : Int32) (g_grid : Nat → Int32) : Option ((Int32 × Int32 × (Nat → Int32)) ⊕ ((Int32 × Int32 × (Nat → Int32)) ⊕ ((Int32 × Int32 × (Nat → Int32)) ⊕ ((Int32 × Int32 × (Nat → Int32)) ⊕ (Int32 × (Nat → Int32)))))) := br (x3 < (((x6 - (1 : Int32)) * x4) + ((x7 - (1 : Int32)) * x5))) (ml (bX8_findGrid_145 x1 x2 x3 x4 x5 x6 g_first g_grid)) (br (x2 ≤ (x6 * x7)) (ml (bX8_findGrid_145 x1 x2 x3 x4 x5 x6 g_first g_grid)) (bd (fX8_isGrid x1 x4 x5 x6 x7 g_first) (fun u7 => br (u7 = 0) (bX8_findGrid_139 x1 x2 x3 x4 x5 x6 x7 g_first g_grid) (lt_ (x6 * x7) (fun y9 => gd (¬ (1 : Int32) < 0 ∧ (1 : Int32).toNatClampNeg < 5) (lt_ (upd g_grid (1 : Int32).toNatClampNeg x4) (fun y11 => gd (¬ (2 : Int32) < 0 ∧ (2 : Int32).toNatClampNeg < 5) (lt_ (upd y11 (2 : Int32).toNatClampNeg x5) (fun y13 => gd (¬ (3 : Int32) < 0 ∧ (3 : Int32).toNatClampNeg < 5) (lt_ (upd y13 (3 : Int32).toNatClampNeg x6) (fun y15 => gd (¬ (4 : Int32) < 0 ∧ (4 : Int32).toNatClampNeg < 5) (lt_ (upd y15 (4 : Int32).toNatClampNeg x7) (fun y17 => bX8_findGrid_139 x1 y9 x3 x4 x5 x6 x7 g_first y17)))))))))))))
noncomputable def sX8_findGrid_57 (x1 : Int32) (x3 : Int32) (x4 : Int32) (x5 : Int32) (x6 : Int32) (g_first : Nat → Int32) : (Int32 × Int32 × (Nat → Int32)) → Option ((Int32 × Int32 × (Nat → Int32)) ⊕ ((Int32 × Int32 × (Nat → Int32)) ⊕ ((Int32 × Int32 × (Nat → Int32)) ⊕ ((Int32 × Int32 × (Nat → Int32)) ⊕ (Int32 × (Nat → Int32)))))) := fun q => bX8_findGrid_57 x1 x3 x4 x5 x6 g_first q.1 q.2.1 q.2.2
noncomputable def bX8_findGrid_40 (x1 : Int32) (x3 : Int32) (x4 : Int32) (x5 : Int32) (g_first : Nat → Int32) (x2 : Int32) (x6 : Int32) (g_grid : Nat → Int32) : Option ((Int32 × Int32 × (Nat → Int32)) ⊕ ((Int32 × Int32 × (Nat → Int32)) ⊕ ((Int32 × Int32 × (Nat → Int32)) ⊕ (Int32 × (Nat → Int32))))) := br (x3 < (((x6 - (1 : Int32)) * x4) + x5)) (lt_ (x5 + (1 : Int32)) (fun y19 => some (Sum.inr (Sum.inl ((x2, y19, g_grid)))))) (run (sX8_findGrid_57 x1 x3 x4 x5 x6 g_first) ((x2, (2 : Int32), g_grid)))
noncomputable def sX8_findGrid_40 (x1 : Int32) (x3 : Int32) (x4 : Int32) (x5 : Int32) (g_first : Nat → Int32) : (Int32 × Int32 × (Nat → Int32)) → Option ((Int32 × Int32 × (Nat → Int32)) ⊕ ((Int32 × Int32 × (Nat → Int32)) ⊕ ((Int32 × Int32 × (Nat → Int32)) ⊕ (Int32 × (Nat → Int32))))) := fun q => bX8_findGrid_40 x1 x3 x4 x5 g_first q.1 q.2.1 q.2.2
noncomputable def bX8_findGrid_28 (x1 : Int32) (x3 : Int32) (x4 : Int32) (g_first : Nat → Int32) (x2 : Int32) (x5 : Int32) (g_grid : Nat → Int32) : Option ((Int32 × Int32 × (Nat → Int32)) ⊕ ((Int32 × Int32 × (Nat → Int32)) ⊕ (Int32 × (Nat → Int32)))) := br (x3 < (x4 + x5)) (lt_ (x4 + (1 : Int32)) (fun y21 => some (Sum.inr (Sum.inl ((x2, y21, g_grid)))))) (run (sX8_findGrid_40 x1 x3 x4 x5 g_first) ((x2, (2 : Int32), g_grid)))
noncomputable def sX8_findGrid_28 (x1 : Int32) (x3 : Int32) (x4 : Int32) (g_first : Nat → Int32) : (Int32 × Int32 × (Nat → Int32)) → Option ((Int32 × Int32 × (Nat → Int32)) ⊕ ((Int32 × Int32 × (Nat → Int32)) ⊕ (Int32 × (Nat → Int32)))) := fun q => bX8_findGrid_28 x1 x3 x4 g_first q.1 q.2.1 q.2.2
noncomputable def bX8_findGrid_16 (x1 : Int32) (x3 : Int32) (g_first : Nat → Int32) (x2 : Int32) (x4 : Int32) (g_grid : Nat → Int32) : Option ((Int32 × Int32 × (Nat → Int32)) ⊕ (Int32 × (Nat → Int32))) := br (x3 ≤ x4) (gd (¬ (0 : Int32) < 0 ∧ (0 : Int32).toNatClampNeg < 41) (lt_ (g_first (0 : Int32).toNatClampNeg) (fun y24 => gd (¬ (0 : Int32) < 0 ∧ (0 : Int32).toNatClampNeg < 5) (lt_ (upd g_grid (0 : Int32).toNatClampNeg y24) (fun y26 => br ((1000000 : Int32) ≤ x2) (gd ((0 : Int32) = 0 ∨ (0 : Int32) = 1) (some (Sum.inr (((0 : Int32), y26))))) (gd ((1 : Int32) = 0 ∨ (1 : Int32) = 1) (some (Sum.inr (((1 : Int32), y26)))))))))) (lt_ (x4 + (1 : Int32)) (fun y30 => run (sX8_findGrid_28 x1 x3 x4 g_first) ((x2, y30, g_grid))))
noncomputable def sX8_findGrid_16 (x1 : Int32) (x3 : Int32) (g_first : Nat → Int32) : (Int32 × Int32 × (Nat → Int32)) → Option ((Int32 × Int32 × (Nat → Int32)) ⊕ (Int32 × (Nat → Int32))) := fun q => bX8_findGrid_16 x1 x3 g_first q.1 q.2.1 q.2.2
noncomputable def fX8_findGrid (q1 : Int32) (g_first : Nat → Int32) (g_grid : Nat → Int32) : Option (Int32 × (Nat → Int32)) := gd (¬ (0 : Int32) < 0 ∧ (0 : Int32).toNatClampNeg < 41) (lt_ ((80 : Int32) - (g_first (0 : Int32).toNatClampNeg)) (fun y32 => run (sX8_findGrid_16 q1 y32 g_first) (((1000000 : Int32), (1 : Int32), g_grid))))
set_option maxHeartbeats 4000000 in
set_option maxRecDepth 100000 in
theorem cX8_findGrid_ct (l : Launch) (D : va_G) (cI cL cC cZ : ClassId) (a_this a_text a_now a_before a_read a_first a_second a_sums a_other a_grid a_order : Nat) (g_length : Int32) (g_undoMany : Int32) (g_spot : Int32) (g_step : Int32) (g_coverMany : Int32) (g_leastSums : Int32) (g_leastPart : Int32) (g_first : Nat → Int32) (g_grid : Nat → Int32) (q1 : Int32) (r0 : Int32) (v_grid : Nat → Int32) (hf : fX8_findGrid q1 g_first g_grid = some ((r0, v_grid))) : CtI l yX8_findGrid wsX8_findGrid rmX8_findGrid D (tyz cI cL cC cZ) [.ref a_this, .int q1] [(a_this, .inr (8, [.int g_length, .ref a_text, .ref a_now, .ref a_before, .int g_undoMany, .ref a_read, .int g_spot, .ref a_first, .ref a_second, .ref a_sums, .ref a_other, .int g_step, .int g_coverMany, .ref a_grid, .ref a_order, .int g_leastSums, .int g_leastPart])), (a_first, .inl (cI, 41, .inl g_first)), (a_grid, .inl (cI, 5, .inl g_grid))] [(a_this, .inr (8, [.int g_length, .ref a_text, .ref a_now, .ref a_before, .int g_undoMany, .ref a_read, .int g_spot, .ref a_first, .ref a_second, .ref a_sums, .ref a_other, .int g_step, .int g_coverMany, .ref a_grid, .ref a_order, .int g_leastSums, .int g_leastPart])), (a_first, .inl (cI, 41, .inl g_first)), (a_grid, .inl (cI, 5, .inl v_grid))] r0 := by
  refine CtI.make (cc := cX8_findGrid) (maxL := 8) (ty := .boolean) (by decide) rfl (Nat.le_of_ble_eq_true rfl) ?_
  intro p e s m below meth c A ls C0 hN hA hP hD hl
  obtain ⟨hx, hb, hr, hml, hown, hts, hlk⟩ := id C0
  have hown : s.vm.findClass RX8 = some m.cls := hown
  have hS : va_S A s.heap s.heap [] := va_S.rf
  have hP : va_P D vwCl [(a_this, .inr (8, [.int g_length, .ref a_text, .ref a_now, .ref a_before, .int g_undoMany, .ref a_read, .int g_spot, .ref a_first, .ref a_second, .ref a_sums, .ref a_other, .int g_step, .int g_coverMany, .ref a_grid, .ref a_order, .int g_leastSums, .int g_leastPart])), (a_first, .inl (cI, 41, .inl g_first)), (a_grid, .inl (cI, 5, .inl g_grid))] s.heap := hP
  have hD : va_D A [(a_this, .inr (8, [.int g_length, .ref a_text, .ref a_now, .ref a_before, .int g_undoMany, .ref a_read, .int g_spot, .ref a_first, .ref a_second, .ref a_sums, .ref a_other, .int g_step, .int g_coverMany, .ref a_grid, .ref a_order, .int g_leastSums, .int g_leastPart])), (a_first, .inl (cI, 41, .inl g_first)), (a_grid, .inl (cI, 5, .inl g_grid))] := hD
  have hl : lv_has ls 8 [(0, .ref a_this), (1, .int q1)] := hl
  have z1 := cwV (R := rmX8_findGrid) (rm := rmX8_isGrid) (mc := 0) (ms := 0) 5 hts gX8_findGrid_X8_isGrid rfl rfl rfl (by decide +kernel) ⟨Nat.le_of_ble_eq_true rfl, Nat.le_of_ble_eq_true rfl⟩
  have z2 : ∀ w ∈ u_ws RX8 TX8 17, w ∈ wsX8_findGrid := by decide +kernel
  have z3 := hts (.fieldLink RX8 35 "LittleSumsModel" "grid" "[I") (by decide +kernel)
  have z4 := hts (.fieldLink RX8 23 "LittleSumsModel" "first" "[I") (by decide +kernel)
  have z5 := hts (.constant RX8 143 (1000000)) (by decide +kernel)
  have w16 : ∀ (x1 : Int32) (x3 : Int32) (g_first : Nat → Int32) (x2 : Int32) (x4 : Int32) (g_grid : Nat → Int32) (t : Int32 × (Nat → Int32)) (H : Heap) (locs : List Loc) (ls : Array Slot), run (sX8_findGrid_16 x1 x3 g_first) ((x2, x4, g_grid)) = some t → (fun z => z = (r0, v_grid)) t → va_P D vwCl [(a_this, .inr (8, [.int g_length, .ref a_text, .ref a_now, .ref a_before, .int g_undoMany, .ref a_read, .int g_spot, .ref a_first, .ref a_second, .ref a_sums, .ref a_other, .int g_step, .int g_coverMany, .ref a_grid, .ref a_order, .int g_leastSums, .int g_leastPart])), (a_first, .inl (cI, 41, .inl g_first)), (a_grid, .inl (cI, 5, .inl g_grid))] H → va_D A [(a_this, .inr (8, [.int g_length, .ref a_text, .ref a_now, .ref a_before, .int g_undoMany, .ref a_read, .int g_spot, .ref a_first, .ref a_second, .ref a_sums, .ref a_other, .int g_step, .int g_coverMany, .ref a_grid, .ref a_order, .int g_leastSums, .int g_leastPart])), (a_first, .inl (cI, 41, .inl g_first)), (a_grid, .inl (cI, 5, .inl g_grid))] → va_S A s.heap H locs → lv_has ls 8 [(0, .ref a_this), (1, .int x1), (2, .int x2), (3, .int x3), (4, .int x4)] → W p l e rmX8_findGrid s m ([.ref a_this, .int q1] : List Value).toArray below meth c H locs 0 0 (MQ below (cQi D r0 A [(a_this, .inr (8, [.int g_length, .ref a_text, .ref a_now, .ref a_before, .int g_undoMany, .ref a_read, .int g_spot, .ref a_first, .ref a_second, .ref a_sums, .ref a_other, .int g_step, .int g_coverMany, .ref a_grid, .ref a_order, .int g_leastSums, .int g_leastPart])), (a_first, .inl (cI, 41, .inl g_first)), (a_grid, .inl (cI, 5, .inl v_grid))]) ([.ref a_this, .int q1] : List Value).toArray s 0 0 A) (F0 m 16 ls []) := by
    intro x1 x3 g_first
    obtain ⟨F16, eF16⟩ : ∃ F : (Int32 × Int32 × (Nat → Int32)) → Prop, F = fun q => ∀ (H : Heap) (locs : List Loc) (ls : Array Slot), va_P D vwCl [(a_this, .inr (8, [.int g_length, .ref a_text, .ref a_now, .ref a_before, .int g_undoMany, .ref a_read, .int g_spot, .ref a_first, .ref a_second, .ref a_sums, .ref a_other, .int g_step, .int g_coverMany, .ref a_grid, .ref a_order, .int g_leastSums, .int g_leastPart])), (a_first, .inl (cI, 41, .inl g_first)), (a_grid, .inl (cI, 5, .inl q.2.2))] H → va_D A [(a_this, .inr (8, [.int g_length, .ref a_text, .ref a_now, .ref a_before, .int g_undoMany, .ref a_read, .int g_spot, .ref a_first, .ref a_second, .ref a_sums, .ref a_other, .int g_step, .int g_coverMany, .ref a_grid, .ref a_order, .int g_leastSums, .int g_leastPart])), (a_first, .inl (cI, 41, .inl g_first)), (a_grid, .inl (cI, 5, .inl q.2.2))] → va_S A s.heap H locs → lv_has ls 8 [(0, .ref a_this), (1, .int x1), (2, .int q.1), (3, .int x3), (4, .int q.2.1)] → W p l e rmX8_findGrid s m ([.ref a_this, .int q1] : List Value).toArray below meth c H locs 0 0 (MQ below (cQi D r0 A [(a_this, .inr (8, [.int g_length, .ref a_text, .ref a_now, .ref a_before, .int g_undoMany, .ref a_read, .int g_spot, .ref a_first, .ref a_second, .ref a_sums, .ref a_other, .int g_step, .int g_coverMany, .ref a_grid, .ref a_order, .int g_leastSums, .int g_leastPart])), (a_first, .inl (cI, 41, .inl g_first)), (a_grid, .inl (cI, 5, .inl v_grid))]) ([.ref a_this, .int q1] : List Value).toArray s 0 0 A) (F0 m 16 ls []) := ⟨_, rfl⟩
    have key : ∀ (q : Int32 × Int32 × (Nat → Int32)) (t : Int32 × (Nat → Int32)), run (sX8_findGrid_16 x1 x3 g_first) q = some t → (fun z => z = (r0, v_grid)) t → F16 q := by
      refine loop_rule (sX8_findGrid_16 x1 x3 g_first) F16 (fun z => z = (r0, v_grid)) ?_
      intro q t hf hF
      have hF : (Sum.elim F16 (fun z => z = (r0, v_grid))) t := hF
      have w28 : ∀ (x4 : Int32) (x2 : Int32) (x5 : Int32) (g_grid : Nat → Int32) (t : (Int32 × Int32 × (Nat → Int32)) ⊕ (Int32 × (Nat → Int32))) (H : Heap) (locs : List Loc) (ls : Array Slot), run (sX8_findGrid_28 x1 x3 x4 g_first) ((x2, x5, g_grid)) = some t → (Sum.elim F16 (fun z => z = (r0, v_grid))) t → va_P D vwCl [(a_this, .inr (8, [.int g_length, .ref a_text, .ref a_now, .ref a_before, .int g_undoMany, .ref a_read, .int g_spot, .ref a_first, .ref a_second, .ref a_sums, .ref a_other, .int g_step, .int g_coverMany, .ref a_grid, .ref a_order, .int g_leastSums, .int g_leastPart])), (a_first, .inl (cI, 41, .inl g_first)), (a_grid, .inl (cI, 5, .inl g_grid))] H → va_D A [(a_this, .inr (8, [.int g_length, .ref a_text, .ref a_now, .ref a_before, .int g_undoMany, .ref a_read, .int g_spot, .ref a_first, .ref a_second, .ref a_sums, .ref a_other, .int g_step, .int g_coverMany, .ref a_grid, .ref a_order, .int g_leastSums, .int g_leastPart])), (a_first, .inl (cI, 41, .inl g_first)), (a_grid, .inl (cI, 5, .inl g_grid))] → va_S A s.heap H locs → lv_has ls 8 [(0, .ref a_this), (1, .int x1), (2, .int x2), (3, .int x3), (4, .int x4), (5, .int x5)] → W p l e rmX8_findGrid s m ([.ref a_this, .int q1] : List Value).toArray below meth c H locs 0 0 (MQ below (cQi D r0 A [(a_this, .inr (8, [.int g_length, .ref a_text, .ref a_now, .ref a_before, .int g_undoMany, .ref a_read, .int g_spot, .ref a_first, .ref a_second, .ref a_sums, .ref a_other, .int g_step, .int g_coverMany, .ref a_grid, .ref a_order, .int g_leastSums, .int g_leastPart])), (a_first, .inl (cI, 41, .inl g_first)), (a_grid, .inl (cI, 5, .inl v_grid))]) ([.ref a_this, .int q1] : List Value).toArray s 0 0 A) (F0 m 28 ls []) := by
        intro x4
        obtain ⟨F28, eF28⟩ : ∃ F : (Int32 × Int32 × (Nat → Int32)) → Prop, F = fun q => ∀ (H : Heap) (locs : List Loc) (ls : Array Slot), va_P D vwCl [(a_this, .inr (8, [.int g_length, .ref a_text, .ref a_now, .ref a_before, .int g_undoMany, .ref a_read, .int g_spot, .ref a_first, .ref a_second, .ref a_sums, .ref a_other, .int g_step, .int g_coverMany, .ref a_grid, .ref a_order, .int g_leastSums, .int g_leastPart])), (a_first, .inl (cI, 41, .inl g_first)), (a_grid, .inl (cI, 5, .inl q.2.2))] H → va_D A [(a_this, .inr (8, [.int g_length, .ref a_text, .ref a_now, .ref a_before, .int g_undoMany, .ref a_read, .int g_spot, .ref a_first, .ref a_second, .ref a_sums, .ref a_other, .int g_step, .int g_coverMany, .ref a_grid, .ref a_order, .int g_leastSums, .int g_leastPart])), (a_first, .inl (cI, 41, .inl g_first)), (a_grid, .inl (cI, 5, .inl q.2.2))] → va_S A s.heap H locs → lv_has ls 8 [(0, .ref a_this), (1, .int x1), (2, .int q.1), (3, .int x3), (4, .int x4), (5, .int q.2.1)] → W p l e rmX8_findGrid s m ([.ref a_this, .int q1] : List Value).toArray below meth c H locs 0 0 (MQ below (cQi D r0 A [(a_this, .inr (8, [.int g_length, .ref a_text, .ref a_now, .ref a_before, .int g_undoMany, .ref a_read, .int g_spot, .ref a_first, .ref a_second, .ref a_sums, .ref a_other, .int g_step, .int g_coverMany, .ref a_grid, .ref a_order, .int g_leastSums, .int g_leastPart])), (a_first, .inl (cI, 41, .inl g_first)), (a_grid, .inl (cI, 5, .inl v_grid))]) ([.ref a_this, .int q1] : List Value).toArray s 0 0 A) (F0 m 28 ls []) := ⟨_, rfl⟩
        have key : ∀ (q : Int32 × Int32 × (Nat → Int32)) (t : (Int32 × Int32 × (Nat → Int32)) ⊕ (Int32 × (Nat → Int32))), run (sX8_findGrid_28 x1 x3 x4 g_first) q = some t → (Sum.elim F16 (fun z => z = (r0, v_grid))) t → F28 q := by
          refine loop_rule (sX8_findGrid_28 x1 x3 x4 g_first) F28 (Sum.elim F16 (fun z => z = (r0, v_grid))) ?_
          intro q t hf hF
          have hF : (Sum.elim F28 (Sum.elim F16 (fun z => z = (r0, v_grid)))) t := hF
          have w40 : ∀ (x5 : Int32) (x2 : Int32) (x6 : Int32) (g_grid : Nat → Int32) (t : (Int32 × Int32 × (Nat → Int32)) ⊕ ((Int32 × Int32 × (Nat → Int32)) ⊕ (Int32 × (Nat → Int32)))) (H : Heap) (locs : List Loc) (ls : Array Slot), run (sX8_findGrid_40 x1 x3 x4 x5 g_first) ((x2, x6, g_grid)) = some t → (Sum.elim F28 (Sum.elim F16 (fun z => z = (r0, v_grid)))) t → va_P D vwCl [(a_this, .inr (8, [.int g_length, .ref a_text, .ref a_now, .ref a_before, .int g_undoMany, .ref a_read, .int g_spot, .ref a_first, .ref a_second, .ref a_sums, .ref a_other, .int g_step, .int g_coverMany, .ref a_grid, .ref a_order, .int g_leastSums, .int g_leastPart])), (a_first, .inl (cI, 41, .inl g_first)), (a_grid, .inl (cI, 5, .inl g_grid))] H → va_D A [(a_this, .inr (8, [.int g_length, .ref a_text, .ref a_now, .ref a_before, .int g_undoMany, .ref a_read, .int g_spot, .ref a_first, .ref a_second, .ref a_sums, .ref a_other, .int g_step, .int g_coverMany, .ref a_grid, .ref a_order, .int g_leastSums, .int g_leastPart])), (a_first, .inl (cI, 41, .inl g_first)), (a_grid, .inl (cI, 5, .inl g_grid))] → va_S A s.heap H locs → lv_has ls 8 [(0, .ref a_this), (1, .int x1), (2, .int x2), (3, .int x3), (4, .int x4), (5, .int x5), (6, .int x6)] → W p l e rmX8_findGrid s m ([.ref a_this, .int q1] : List Value).toArray below meth c H locs 0 0 (MQ below (cQi D r0 A [(a_this, .inr (8, [.int g_length, .ref a_text, .ref a_now, .ref a_before, .int g_undoMany, .ref a_read, .int g_spot, .ref a_first, .ref a_second, .ref a_sums, .ref a_other, .int g_step, .int g_coverMany, .ref a_grid, .ref a_order, .int g_leastSums, .int g_leastPart])), (a_first, .inl (cI, 41, .inl g_first)), (a_grid, .inl (cI, 5, .inl v_grid))]) ([.ref a_this, .int q1] : List Value).toArray s 0 0 A) (F0 m 40 ls []) := by
            intro x5
            obtain ⟨F40, eF40⟩ : ∃ F : (Int32 × Int32 × (Nat → Int32)) → Prop, F = fun q => ∀ (H : Heap) (locs : List Loc) (ls : Array Slot), va_P D vwCl [(a_this, .inr (8, [.int g_length, .ref a_text, .ref a_now, .ref a_before, .int g_undoMany, .ref a_read, .int g_spot, .ref a_first, .ref a_second, .ref a_sums, .ref a_other, .int g_step, .int g_coverMany, .ref a_grid, .ref a_order, .int g_leastSums, .int g_leastPart])), (a_first, .inl (cI, 41, .inl g_first)), (a_grid, .inl (cI, 5, .inl q.2.2))] H → va_D A [(a_this, .inr (8, [.int g_length, .ref a_text, .ref a_now, .ref a_before, .int g_undoMany, .ref a_read, .int g_spot, .ref a_first, .ref a_second, .ref a_sums, .ref a_other, .int g_step, .int g_coverMany, .ref a_grid, .ref a_order, .int g_leastSums, .int g_leastPart])), (a_first, .inl (cI, 41, .inl g_first)), (a_grid, .inl (cI, 5, .inl q.2.2))] → va_S A s.heap H locs → lv_has ls 8 [(0, .ref a_this), (1, .int x1), (2, .int q.1), (3, .int x3), (4, .int x4), (5, .int x5), (6, .int q.2.1)] → W p l e rmX8_findGrid s m ([.ref a_this, .int q1] : List Value).toArray below meth c H locs 0 0 (MQ below (cQi D r0 A [(a_this, .inr (8, [.int g_length, .ref a_text, .ref a_now, .ref a_before, .int g_undoMany, .ref a_read, .int g_spot, .ref a_first, .ref a_second, .ref a_sums, .ref a_other, .int g_step, .int g_coverMany, .ref a_grid, .ref a_order, .int g_leastSums, .int g_leastPart])), (a_first, .inl (cI, 41, .inl g_first)), (a_grid, .inl (cI, 5, .inl v_grid))]) ([.ref a_this, .int q1] : List Value).toArray s 0 0 A) (F0 m 40 ls []) := ⟨_, rfl⟩
            have key : ∀ (q : Int32 × Int32 × (Nat → Int32)) (t : (Int32 × Int32 × (Nat → Int32)) ⊕ ((Int32 × Int32 × (Nat → Int32)) ⊕ (Int32 × (Nat → Int32)))), run (sX8_findGrid_40 x1 x3 x4 x5 g_first) q = some t → (Sum.elim F28 (Sum.elim F16 (fun z => z = (r0, v_grid)))) t → F40 q := by
              refine loop_rule (sX8_findGrid_40 x1 x3 x4 x5 g_first) F40 (Sum.elim F28 (Sum.elim F16 (fun z => z = (r0, v_grid)))) ?_
              intro q t hf hF
              have hF : (Sum.elim F40 (Sum.elim F28 (Sum.elim F16 (fun z => z = (r0, v_grid))))) t := hF
              have w145 : ∀ (x2 : Int32) (x6 : Int32) (g_grid : Nat → Int32) (t : (Int32 × Int32 × (Nat → Int32)) ⊕ ((Int32 × Int32 × (Nat → Int32)) ⊕ ((Int32 × Int32 × (Nat → Int32)) ⊕ (Int32 × (Nat → Int32))))) (H : Heap) (locs : List Loc) (ls : Array Slot), bX8_findGrid_145 x1 x2 x3 x4 x5 x6 g_first g_grid = some t → (Sum.elim F40 (Sum.elim F28 (Sum.elim F16 (fun z => z = (r0, v_grid))))) t → va_P D vwCl [(a_this, .inr (8, [.int g_length, .ref a_text, .ref a_now, .ref a_before, .int g_undoMany, .ref a_read, .int g_spot, .ref a_first, .ref a_second, .ref a_sums, .ref a_other, .int g_step, .int g_coverMany, .ref a_grid, .ref a_order, .int g_leastSums, .int g_leastPart])), (a_first, .inl (cI, 41, .inl g_first)), (a_grid, .inl (cI, 5, .inl g_grid))] H → va_D A [(a_this, .inr (8, [.int g_length, .ref a_text, .ref a_now, .ref a_before, .int g_undoMany, .ref a_read, .int g_spot, .ref a_first, .ref a_second, .ref a_sums, .ref a_other, .int g_step, .int g_coverMany, .ref a_grid, .ref a_order, .int g_leastSums, .int g_leastPart])), (a_first, .inl (cI, 41, .inl g_first)), (a_grid, .inl (cI, 5, .inl g_grid))] → va_S A s.heap H locs → lv_has ls 8 [(0, .ref a_this), (1, .int x1), (2, .int x2), (3, .int x3), (4, .int x4), (5, .int x5), (6, .int x6)] → W p l e rmX8_findGrid s m ([.ref a_this, .int q1] : List Value).toArray below meth c H locs 0 0 (MQ below (cQi D r0 A [(a_this, .inr (8, [.int g_length, .ref a_text, .ref a_now, .ref a_before, .int g_undoMany, .ref a_read, .int g_spot, .ref a_first, .ref a_second, .ref a_sums, .ref a_other, .int g_step, .int g_coverMany, .ref a_grid, .ref a_order, .int g_leastSums, .int g_leastPart])), (a_first, .inl (cI, 41, .inl g_first)), (a_grid, .inl (cI, 5, .inl v_grid))]) ([.ref a_this, .int q1] : List Value).toArray s 0 0 A) (F0 m 145 ls []) := by
                intro x2 x6 g_grid t H locs ls hf hF hP hD hS hl
                unfold bX8_findGrid_145 at hf
                obtain ⟨y1, ey1⟩ : ∃ z : Int32, z = x6 + (1 : Int32) := ⟨_, rfl⟩
                have hf := lt_some hf y1 ey1
                refine lv_iinc (v := y1) (lv' := [(6, .int y1), (0, .ref a_this), (1, .int x1), (2, .int x2), (3, .int x3), (4, .int x4), (5, .int x5)]) hx hb dX8_findGrid_145 hl (k := 6) rfl (by rw [ey1]; rfl) (by decide) rfl (fun ls hl => ?_)
                refine lv_goto (tgt := 40) hx hb dX8_findGrid_148 (by decide) ?_
                cases hf
                exact ((congrFun eF40 _).mp hF) H locs ls hP hD hS (lv_sub hl [1, 2, 3, 4, 5, 6, 0] rfl)
              have w57 : ∀ (x6 : Int32) (x2 : Int32) (x7 : Int32) (g_grid : Nat → Int32) (t : (Int32 × Int32 × (Nat → Int32)) ⊕ ((Int32 × Int32 × (Nat → Int32)) ⊕ ((Int32 × Int32 × (Nat → Int32)) ⊕ (Int32 × (Nat → Int32))))) (H : Heap) (locs : List Loc) (ls : Array Slot), run (sX8_findGrid_57 x1 x3 x4 x5 x6 g_first) ((x2, x7, g_grid)) = some t → (Sum.elim F40 (Sum.elim F28 (Sum.elim F16 (fun z => z = (r0, v_grid))))) t → va_P D vwCl [(a_this, .inr (8, [.int g_length, .ref a_text, .ref a_now, .ref a_before, .int g_undoMany, .ref a_read, .int g_spot, .ref a_first, .ref a_second, .ref a_sums, .ref a_other, .int g_step, .int g_coverMany, .ref a_grid, .ref a_order, .int g_leastSums, .int g_leastPart])), (a_first, .inl (cI, 41, .inl g_first)), (a_grid, .inl (cI, 5, .inl g_grid))] H → va_D A [(a_this, .inr (8, [.int g_length, .ref a_text, .ref a_now, .ref a_before, .int g_undoMany, .ref a_read, .int g_spot, .ref a_first, .ref a_second, .ref a_sums, .ref a_other, .int g_step, .int g_coverMany, .ref a_grid, .ref a_order, .int g_leastSums, .int g_leastPart])), (a_first, .inl (cI, 41, .inl g_first)), (a_grid, .inl (cI, 5, .inl g_grid))] → va_S A s.heap H locs → lv_has ls 8 [(0, .ref a_this), (1, .int x1), (2, .int x2), (3, .int x3), (4, .int x4), (5, .int x5), (6, .int x6), (7, .int x7)] → W p l e rmX8_findGrid s m ([.ref a_this, .int q1] : List Value).toArray below meth c H locs 0 0 (MQ below (cQi D r0 A [(a_this, .inr (8, [.int g_length, .ref a_text, .ref a_now, .ref a_before, .int g_undoMany, .ref a_read, .int g_spot, .ref a_first, .ref a_second, .ref a_sums, .ref a_other, .int g_step, .int g_coverMany, .ref a_grid, .ref a_order, .int g_leastSums, .int g_leastPart])), (a_first, .inl (cI, 41, .inl g_first)), (a_grid, .inl (cI, 5, .inl v_grid))]) ([.ref a_this, .int q1] : List Value).toArray s 0 0 A) (F0 m 57 ls []) := by
                intro x6
                obtain ⟨F57, eF57⟩ : ∃ F : (Int32 × Int32 × (Nat → Int32)) → Prop, F = fun q => ∀ (H : Heap) (locs : List Loc) (ls : Array Slot), va_P D vwCl [(a_this, .inr (8, [.int g_length, .ref a_text, .ref a_now, .ref a_before, .int g_undoMany, .ref a_read, .int g_spot, .ref a_first, .ref a_second, .ref a_sums, .ref a_other, .int g_step, .int g_coverMany, .ref a_grid, .ref a_order, .int g_leastSums, .int g_leastPart])), (a_first, .inl (cI, 41, .inl g_first)), (a_grid, .inl (cI, 5, .inl q.2.2))] H → va_D A [(a_this, .inr (8, [.int g_length, .ref a_text, .ref a_now, .ref a_before, .int g_undoMany, .ref a_read, .int g_spot, .ref a_first, .ref a_second, .ref a_sums, .ref a_other, .int g_step, .int g_coverMany, .ref a_grid, .ref a_order, .int g_leastSums, .int g_leastPart])), (a_first, .inl (cI, 41, .inl g_first)), (a_grid, .inl (cI, 5, .inl q.2.2))] → va_S A s.heap H locs → lv_has ls 8 [(0, .ref a_this), (1, .int x1), (2, .int q.1), (3, .int x3), (4, .int x4), (5, .int x5), (6, .int x6), (7, .int q.2.1)] → W p l e rmX8_findGrid s m ([.ref a_this, .int q1] : List Value).toArray below meth c H locs 0 0 (MQ below (cQi D r0 A [(a_this, .inr (8, [.int g_length, .ref a_text, .ref a_now, .ref a_before, .int g_undoMany, .ref a_read, .int g_spot, .ref a_first, .ref a_second, .ref a_sums, .ref a_other, .int g_step, .int g_coverMany, .ref a_grid, .ref a_order, .int g_leastSums, .int g_leastPart])), (a_first, .inl (cI, 41, .inl g_first)), (a_grid, .inl (cI, 5, .inl v_grid))]) ([.ref a_this, .int q1] : List Value).toArray s 0 0 A) (F0 m 57 ls []) := ⟨_, rfl⟩
                have key : ∀ (q : Int32 × Int32 × (Nat → Int32)) (t : (Int32 × Int32 × (Nat → Int32)) ⊕ ((Int32 × Int32 × (Nat → Int32)) ⊕ ((Int32 × Int32 × (Nat → Int32)) ⊕ (Int32 × (Nat → Int32))))), run (sX8_findGrid_57 x1 x3 x4 x5 x6 g_first) q = some t → (Sum.elim F40 (Sum.elim F28 (Sum.elim F16 (fun z => z = (r0, v_grid))))) t → F57 q := by
                  refine loop_rule (sX8_findGrid_57 x1 x3 x4 x5 x6 g_first) F57 (Sum.elim F40 (Sum.elim F28 (Sum.elim F16 (fun z => z = (r0, v_grid))))) ?_
                  intro q t hf hF
                  have hF : (Sum.elim F57 (Sum.elim F40 (Sum.elim F28 (Sum.elim F16 (fun z => z = (r0, v_grid)))))) t := hF
                  have w139 : ∀ (x2 : Int32) (x7 : Int32) (g_grid : Nat → Int32) (t : (Int32 × Int32 × (Nat → Int32)) ⊕ ((Int32 × Int32 × (Nat → Int32)) ⊕ ((Int32 × Int32 × (Nat → Int32)) ⊕ ((Int32 × Int32 × (Nat → Int32)) ⊕ (Int32 × (Nat → Int32)))))) (H : Heap) (locs : List Loc) (ls : Array Slot), bX8_findGrid_139 x1 x2 x3 x4 x5 x6 x7 g_first g_grid = some t → (Sum.elim F57 (Sum.elim F40 (Sum.elim F28 (Sum.elim F16 (fun z => z = (r0, v_grid)))))) t → va_P D vwCl [(a_this, .inr (8, [.int g_length, .ref a_text, .ref a_now, .ref a_before, .int g_undoMany, .ref a_read, .int g_spot, .ref a_first, .ref a_second, .ref a_sums, .ref a_other, .int g_step, .int g_coverMany, .ref a_grid, .ref a_order, .int g_leastSums, .int g_leastPart])), (a_first, .inl (cI, 41, .inl g_first)), (a_grid, .inl (cI, 5, .inl g_grid))] H → va_D A [(a_this, .inr (8, [.int g_length, .ref a_text, .ref a_now, .ref a_before, .int g_undoMany, .ref a_read, .int g_spot, .ref a_first, .ref a_second, .ref a_sums, .ref a_other, .int g_step, .int g_coverMany, .ref a_grid, .ref a_order, .int g_leastSums, .int g_leastPart])), (a_first, .inl (cI, 41, .inl g_first)), (a_grid, .inl (cI, 5, .inl g_grid))] → va_S A s.heap H locs → lv_has ls 8 [(0, .ref a_this), (1, .int x1), (2, .int x2), (3, .int x3), (4, .int x4), (5, .int x5), (6, .int x6), (7, .int x7)] → W p l e rmX8_findGrid s m ([.ref a_this, .int q1] : List Value).toArray below meth c H locs 0 0 (MQ below (cQi D r0 A [(a_this, .inr (8, [.int g_length, .ref a_text, .ref a_now, .ref a_before, .int g_undoMany, .ref a_read, .int g_spot, .ref a_first, .ref a_second, .ref a_sums, .ref a_other, .int g_step, .int g_coverMany, .ref a_grid, .ref a_order, .int g_leastSums, .int g_leastPart])), (a_first, .inl (cI, 41, .inl g_first)), (a_grid, .inl (cI, 5, .inl v_grid))]) ([.ref a_this, .int q1] : List Value).toArray s 0 0 A) (F0 m 139 ls []) := by
                    intro x2 x7 g_grid t H locs ls hf hF hP hD hS hl
                    unfold bX8_findGrid_139 at hf
                    obtain ⟨y2, ey2⟩ : ∃ z : Int32, z = x7 + (1 : Int32) := ⟨_, rfl⟩
                    have hf := lt_some hf y2 ey2
                    refine lv_iinc (v := y2) (lv' := [(7, .int y2), (0, .ref a_this), (1, .int x1), (2, .int x2), (3, .int x3), (4, .int x4), (5, .int x5), (6, .int x6)]) hx hb dX8_findGrid_139 hl (k := 7) rfl (by rw [ey2]; rfl) (by decide) rfl (fun ls hl => ?_)
                    refine lv_goto (tgt := 57) hx hb dX8_findGrid_142 (by decide) ?_
                    cases hf
                    exact ((congrFun eF57 _).mp hF) H locs ls hP hD hS (lv_sub hl [1, 2, 3, 4, 5, 6, 7, 0] rfl)
                  rw [eF57]
                  obtain ⟨x2, x7, g_grid⟩ := q
                  intro H locs ls hP hD hS hl
                  have hP : va_P D vwCl [(a_this, .inr (8, [.int g_length, .ref a_text, .ref a_now, .ref a_before, .int g_undoMany, .ref a_read, .int g_spot, .ref a_first, .ref a_second, .ref a_sums, .ref a_other, .int g_step, .int g_coverMany, .ref a_grid, .ref a_order, .int g_leastSums, .int g_leastPart])), (a_first, .inl (cI, 41, .inl g_first)), (a_grid, .inl (cI, 5, .inl g_grid))] H := hP
                  have hD : va_D A [(a_this, .inr (8, [.int g_length, .ref a_text, .ref a_now, .ref a_before, .int g_undoMany, .ref a_read, .int g_spot, .ref a_first, .ref a_second, .ref a_sums, .ref a_other, .int g_step, .int g_coverMany, .ref a_grid, .ref a_order, .int g_leastSums, .int g_leastPart])), (a_first, .inl (cI, 41, .inl g_first)), (a_grid, .inl (cI, 5, .inl g_grid))] := hD
                  have hl : lv_has ls 8 [(0, .ref a_this), (1, .int x1), (2, .int x2), (3, .int x3), (4, .int x4), (5, .int x5), (6, .int x6), (7, .int x7)] := hl
                  have hf : bX8_findGrid_57 x1 x3 x4 x5 x6 g_first x2 x7 g_grid = some t := hf
                  unfold bX8_findGrid_57 at hf
                  refine lv_iload hx hb dX8_findGrid_57 (lv_at hl 6 rfl) ?_
                  refine lv_iconst (v := 1) hx hb dX8_findGrid_59 (by decide) ?_
                  refine lv_isub hx hb dX8_findGrid_60 ?_
                  refine lv_iload hx hb dX8_findGrid_61 (lv_at hl 4 rfl) ?_
                  refine lv_imul hx hb dX8_findGrid_63 ?_
                  refine lv_iload hx hb dX8_findGrid_64 (lv_at hl 7 rfl) ?_
                  refine lv_iconst (v := 1) hx hb dX8_findGrid_66 (by decide) ?_
                  refine lv_isub hx hb dX8_findGrid_67 ?_
                  refine lv_iload hx hb dX8_findGrid_68 (lv_at hl 5 rfl) ?_
                  refine lv_imul hx hb dX8_findGrid_70 ?_
                  refine lv_iadd hx hb dX8_findGrid_71 ?_
                  refine lv_iload_n hx hb dX8_findGrid_72 rfl (lv_at hl 3 rfl) ?_
                  refine lv_icmp_gt (tgt := 145) hx hb dX8_findGrid_73 (by decide) (fun c3 => ?_) (fun c3 => ?_)
                  · have hf := br_pos c3 hf
                    obtain ⟨t4, hf, hF⟩ := ml_fin hf hF
                    exact w145 x2 x6 g_grid _ H locs ls hf hF hP hD hS (lv_sub hl [0, 1, 2, 3, 4, 5, 6] rfl)
                  · have hf := br_neg c3 hf
                    refine lv_iload hx hb dX8_findGrid_76 (lv_at hl 6 rfl) ?_
                    refine lv_iload hx hb dX8_findGrid_78 (lv_at hl 7 rfl) ?_
                    refine lv_imul hx hb dX8_findGrid_80 ?_
                    refine lv_iload_n hx hb dX8_findGrid_81 rfl (lv_at hl 2 rfl) ?_
                    refine lv_icmp_ge (tgt := 145) hx hb dX8_findGrid_82 (by decide) (fun c5 => ?_) (fun c5 => ?_)
                    · have hf := br_pos c5 hf
                      obtain ⟨t6, hf, hF⟩ := ml_fin hf hF
                      exact w145 x2 x6 g_grid _ H locs ls hf hF hP hD hS (lv_sub hl [0, 1, 2, 3, 4, 5, 6] rfl)
                    · have hf := br_neg c5 hf
                      refine lv_aload_n hx hb dX8_findGrid_85 rfl (lv_at hl 0 rfl) ?_
                      refine lv_iload_n hx hb dX8_findGrid_86 rfl (lv_at hl 1 rfl) ?_
                      refine lv_iload hx hb dX8_findGrid_87 (lv_at hl 4 rfl) ?_
                      refine lv_iload hx hb dX8_findGrid_89 (lv_at hl 5 rfl) ?_
                      refine lv_iload hx hb dX8_findGrid_91 (lv_at hl 6 rfl) ?_
                      refine lv_iload hx hb dX8_findGrid_93 (lv_at hl 7 rfl) ?_
                      obtain ⟨u7, hu7, hf⟩ := bd_some hf
                      refine caVI (rest := []) (As := [.int x1, .int x4, .int x5, .int x6, .int x7]) (wr := [(a_grid, .inl (cI, 5, .inl g_grid))]) (wo := [(a_this, .inr (8, [.int g_length, .ref a_text, .ref a_now, .ref a_before, .int g_undoMany, .ref a_read, .int g_spot, .ref a_first, .ref a_second, .ref a_sums, .ref a_other, .int g_step, .int g_coverMany, .ref a_grid, .ref a_order, .int g_leastSums, .int g_leastPart])), (a_first, .inl (cI, 41, .inl g_first)), (a_grid, .inl (cI, 5, .inl g_grid))]) ⟨hx, hb, hml, hown, hts⟩ hN hP hD hS hA (cX8_isGrid_ct l D cI cL cC cZ a_this a_text a_now a_before a_read a_first a_second a_sums a_other a_grid a_order g_length g_undoMany g_spot g_step g_coverMany g_leastSums g_leastPart g_first x1 x4 x5 x6 x7 u7 hu7) z1 0 8 rfl rfl [0, 1] [2] [1, 2, 0] rfl (by decide) rfl (by decide) (by decide) rfl (by decide) rfl hl.1 rfl (Nat.le_of_ble_eq_true rfl) dX8_findGrid_95 ⟨Nat.zero_le _, Nat.zero_le _⟩ (fun H locs hP hD hS => ?_)
                      refine lv_if_eq (tgt := 139) hx hb dX8_findGrid_98 (by decide) (fun c8 => ?_) (fun c8 => ?_)
                      · have hf := br_pos c8 hf
                        exact w139 x2 x7 g_grid _ H locs ls hf hF hP hD hS (lv_sub hl [0, 1, 2, 3, 4, 5, 6, 7] rfl)
                      · have hf := br_neg c8 hf
                        refine lv_iload hx hb dX8_findGrid_101 (lv_at hl 6 rfl) ?_
                        refine lv_iload hx hb dX8_findGrid_103 (lv_at hl 7 rfl) ?_
                        refine lv_imul hx hb dX8_findGrid_105 ?_
                        refine lv_topi (fun y9 ey9 => ?_)
                        have hf := lt_some hf y9 ey9
                        refine lv_istore_n (lv' := [(2, .int y9), (0, .ref a_this), (1, .int x1), (3, .int x3), (4, .int x4), (5, .int x5), (6, .int x6), (7, .int x7)]) hx hb dX8_findGrid_106 rfl hl (by decide) rfl (fun ls hl => ?_)
                        refine lv_aload_n hx hb dX8_findGrid_107 rfl (lv_at hl 1 rfl) ?_
                        refine va_get (D := D) (ci := 8) (v := .ref a_grid) (C := RX8) (T := TX8) (N := 17) hx hb hts z2 hown hN.1 hP 0 rfl rfl 13 (by decide) z3 (fun _ h9 => h9) rfl dX8_findGrid_108 ?_
                        refine lv_iconst (v := 1) hx hb dX8_findGrid_111 (by decide) ?_
                        refine lv_iload hx hb dX8_findGrid_112 (lv_at hl 4 rfl) ?_
                        obtain ⟨c10, hf⟩ := gd_some hf
                        refine va_iast hx hb hN.1 hP hD hS 2 0 rfl rfl (ix_in c10) dX8_findGrid_114 (fun H locs hP hD hS => ?_)
                        obtain ⟨y11, ey11⟩ : ∃ z, z = upd g_grid (1 : Int32).toNatClampNeg x4 := ⟨_, rfl⟩
                        have hf := lt_some hf y11 ey11
                        have hP : va_P D vwCl [(a_this, .inr (8, [.int g_length, .ref a_text, .ref a_now, .ref a_before, .int g_undoMany, .ref a_read, .int g_spot, .ref a_first, .ref a_second, .ref a_sums, .ref a_other, .int g_step, .int g_coverMany, .ref a_grid, .ref a_order, .int g_leastSums, .int g_leastPart])), (a_first, .inl (cI, 41, .inl g_first)), (a_grid, .inl (cI, 5, .inl y11))] H := by rw [ey11]; exact hP
                        have hD : va_D A [(a_this, .inr (8, [.int g_length, .ref a_text, .ref a_now, .ref a_before, .int g_undoMany, .ref a_read, .int g_spot, .ref a_first, .ref a_second, .ref a_sums, .ref a_other, .int g_step, .int g_coverMany, .ref a_grid, .ref a_order, .int g_leastSums, .int g_leastPart])), (a_first, .inl (cI, 41, .inl g_first)), (a_grid, .inl (cI, 5, .inl y11))] := by rw [ey11]; exact hD
                        refine lv_aload_n hx hb dX8_findGrid_115 rfl (lv_at hl 1 rfl) ?_
                        refine va_get (D := D) (ci := 8) (v := .ref a_grid) (C := RX8) (T := TX8) (N := 17) hx hb hts z2 hown hN.1 hP 0 rfl rfl 13 (by decide) z3 (fun _ h9 => h9) rfl dX8_findGrid_116 ?_
                        refine lv_iconst (v := 2) hx hb dX8_findGrid_119 (by decide) ?_
                        refine lv_iload hx hb dX8_findGrid_120 (lv_at hl 5 rfl) ?_
                        obtain ⟨c12, hf⟩ := gd_some hf
                        refine va_iast hx hb hN.1 hP hD hS 2 0 rfl rfl (ix_in c12) dX8_findGrid_122 (fun H locs hP hD hS => ?_)
                        obtain ⟨y13, ey13⟩ : ∃ z, z = upd y11 (2 : Int32).toNatClampNeg x5 := ⟨_, rfl⟩
                        have hf := lt_some hf y13 ey13
                        have hP : va_P D vwCl [(a_this, .inr (8, [.int g_length, .ref a_text, .ref a_now, .ref a_before, .int g_undoMany, .ref a_read, .int g_spot, .ref a_first, .ref a_second, .ref a_sums, .ref a_other, .int g_step, .int g_coverMany, .ref a_grid, .ref a_order, .int g_leastSums, .int g_leastPart])), (a_first, .inl (cI, 41, .inl g_first)), (a_grid, .inl (cI, 5, .inl y13))] H := by rw [ey13]; exact hP
                        have hD : va_D A [(a_this, .inr (8, [.int g_length, .ref a_text, .ref a_now, .ref a_before, .int g_undoMany, .ref a_read, .int g_spot, .ref a_first, .ref a_second, .ref a_sums, .ref a_other, .int g_step, .int g_coverMany, .ref a_grid, .ref a_order, .int g_leastSums, .int g_leastPart])), (a_first, .inl (cI, 41, .inl g_first)), (a_grid, .inl (cI, 5, .inl y13))] := by rw [ey13]; exact hD
                        refine lv_aload_n hx hb dX8_findGrid_123 rfl (lv_at hl 1 rfl) ?_
                        refine va_get (D := D) (ci := 8) (v := .ref a_grid) (C := RX8) (T := TX8) (N := 17) hx hb hts z2 hown hN.1 hP 0 rfl rfl 13 (by decide) z3 (fun _ h9 => h9) rfl dX8_findGrid_124 ?_
                        refine lv_iconst (v := 3) hx hb dX8_findGrid_127 (by decide) ?_
                        refine lv_iload hx hb dX8_findGrid_128 (lv_at hl 6 rfl) ?_
                        obtain ⟨c14, hf⟩ := gd_some hf
                        refine va_iast hx hb hN.1 hP hD hS 2 0 rfl rfl (ix_in c14) dX8_findGrid_130 (fun H locs hP hD hS => ?_)
                        obtain ⟨y15, ey15⟩ : ∃ z, z = upd y13 (3 : Int32).toNatClampNeg x6 := ⟨_, rfl⟩
                        have hf := lt_some hf y15 ey15
                        have hP : va_P D vwCl [(a_this, .inr (8, [.int g_length, .ref a_text, .ref a_now, .ref a_before, .int g_undoMany, .ref a_read, .int g_spot, .ref a_first, .ref a_second, .ref a_sums, .ref a_other, .int g_step, .int g_coverMany, .ref a_grid, .ref a_order, .int g_leastSums, .int g_leastPart])), (a_first, .inl (cI, 41, .inl g_first)), (a_grid, .inl (cI, 5, .inl y15))] H := by rw [ey15]; exact hP
                        have hD : va_D A [(a_this, .inr (8, [.int g_length, .ref a_text, .ref a_now, .ref a_before, .int g_undoMany, .ref a_read, .int g_spot, .ref a_first, .ref a_second, .ref a_sums, .ref a_other, .int g_step, .int g_coverMany, .ref a_grid, .ref a_order, .int g_leastSums, .int g_leastPart])), (a_first, .inl (cI, 41, .inl g_first)), (a_grid, .inl (cI, 5, .inl y15))] := by rw [ey15]; exact hD
                        refine lv_aload_n hx hb dX8_findGrid_131 rfl (lv_at hl 1 rfl) ?_
                        refine va_get (D := D) (ci := 8) (v := .ref a_grid) (C := RX8) (T := TX8) (N := 17) hx hb hts z2 hown hN.1 hP 0 rfl rfl 13 (by decide) z3 (fun _ h9 => h9) rfl dX8_findGrid_132 ?_
                        refine lv_iconst (v := 4) hx hb dX8_findGrid_135 (by decide) ?_
                        refine lv_iload hx hb dX8_findGrid_136 (lv_at hl 7 rfl) ?_
                        obtain ⟨c16, hf⟩ := gd_some hf
                        refine va_iast hx hb hN.1 hP hD hS 2 0 rfl rfl (ix_in c16) dX8_findGrid_138 (fun H locs hP hD hS => ?_)
                        obtain ⟨y17, ey17⟩ : ∃ z, z = upd y15 (4 : Int32).toNatClampNeg x7 := ⟨_, rfl⟩
                        have hf := lt_some hf y17 ey17
                        have hP : va_P D vwCl [(a_this, .inr (8, [.int g_length, .ref a_text, .ref a_now, .ref a_before, .int g_undoMany, .ref a_read, .int g_spot, .ref a_first, .ref a_second, .ref a_sums, .ref a_other, .int g_step, .int g_coverMany, .ref a_grid, .ref a_order, .int g_leastSums, .int g_leastPart])), (a_first, .inl (cI, 41, .inl g_first)), (a_grid, .inl (cI, 5, .inl y17))] H := by rw [ey17]; exact hP
                        have hD : va_D A [(a_this, .inr (8, [.int g_length, .ref a_text, .ref a_now, .ref a_before, .int g_undoMany, .ref a_read, .int g_spot, .ref a_first, .ref a_second, .ref a_sums, .ref a_other, .int g_step, .int g_coverMany, .ref a_grid, .ref a_order, .int g_leastSums, .int g_leastPart])), (a_first, .inl (cI, 41, .inl g_first)), (a_grid, .inl (cI, 5, .inl y17))] := by rw [ey17]; exact hD
                        exact w139 y9 x7 y17 _ H locs ls hf hF hP hD hS (lv_sub hl [1, 2, 0, 3, 4, 5, 6, 7] rfl)
                intro x2 x7 g_grid t H locs ls hf hF hP hD hS hl
                exact ((congrFun eF57 _).mp (key ((x2, x7, g_grid)) t hf hF)) H locs ls hP hD hS hl
              rw [eF40]
              obtain ⟨x2, x6, g_grid⟩ := q
              intro H locs ls hP hD hS hl
              have hP : va_P D vwCl [(a_this, .inr (8, [.int g_length, .ref a_text, .ref a_now, .ref a_before, .int g_undoMany, .ref a_read, .int g_spot, .ref a_first, .ref a_second, .ref a_sums, .ref a_other, .int g_step, .int g_coverMany, .ref a_grid, .ref a_order, .int g_leastSums, .int g_leastPart])), (a_first, .inl (cI, 41, .inl g_first)), (a_grid, .inl (cI, 5, .inl g_grid))] H := hP
              have hD : va_D A [(a_this, .inr (8, [.int g_length, .ref a_text, .ref a_now, .ref a_before, .int g_undoMany, .ref a_read, .int g_spot, .ref a_first, .ref a_second, .ref a_sums, .ref a_other, .int g_step, .int g_coverMany, .ref a_grid, .ref a_order, .int g_leastSums, .int g_leastPart])), (a_first, .inl (cI, 41, .inl g_first)), (a_grid, .inl (cI, 5, .inl g_grid))] := hD
              have hl : lv_has ls 8 [(0, .ref a_this), (1, .int x1), (2, .int x2), (3, .int x3), (4, .int x4), (5, .int x5), (6, .int x6)] := hl
              have hf : bX8_findGrid_40 x1 x3 x4 x5 g_first x2 x6 g_grid = some t := hf
              unfold bX8_findGrid_40 at hf
              refine lv_iload hx hb dX8_findGrid_40 (lv_at hl 6 rfl) ?_
              refine lv_iconst (v := 1) hx hb dX8_findGrid_42 (by decide) ?_
              refine lv_isub hx hb dX8_findGrid_43 ?_
              refine lv_iload hx hb dX8_findGrid_44 (lv_at hl 4 rfl) ?_
              refine lv_imul hx hb dX8_findGrid_46 ?_
              refine lv_iload hx hb dX8_findGrid_47 (lv_at hl 5 rfl) ?_
              refine lv_iadd hx hb dX8_findGrid_49 ?_
              refine lv_iload_n hx hb dX8_findGrid_50 rfl (lv_at hl 3 rfl) ?_
              refine lv_icmp_gt (tgt := 151) hx hb dX8_findGrid_51 (by decide) (fun c18 => ?_) (fun c18 => ?_)
              · have hf := br_pos c18 hf
                obtain ⟨y19, ey19⟩ : ∃ z : Int32, z = x5 + (1 : Int32) := ⟨_, rfl⟩
                have hf := lt_some hf y19 ey19
                refine lv_iinc (v := y19) (lv' := [(5, .int y19), (0, .ref a_this), (1, .int x1), (2, .int x2), (3, .int x3), (4, .int x4), (6, .int x6)]) hx hb dX8_findGrid_151 hl (k := 5) rfl (by rw [ey19]; rfl) (by decide) rfl (fun ls hl => ?_)
                refine lv_goto (tgt := 28) hx hb dX8_findGrid_154 (by decide) ?_
                cases hf
                exact ((congrFun eF28 _).mp hF) H locs ls hP hD hS (lv_sub hl [1, 2, 3, 4, 5, 0] rfl)
              · have hf := br_neg c18 hf
                refine lv_iconst (v := 2) hx hb dX8_findGrid_54 (by decide) ?_
                refine lv_istore (lv' := [(7, .int (2 : Int32)), (0, .ref a_this), (1, .int x1), (2, .int x2), (3, .int x3), (4, .int x4), (5, .int x5), (6, .int x6)]) hx hb dX8_findGrid_55 hl (by decide) rfl (fun ls hl => ?_)
                exact w57 x6 x2 (2 : Int32) g_grid _ H locs ls hf hF hP hD hS (lv_sub hl [1, 2, 3, 4, 5, 6, 7, 0] rfl)
            intro x2 x6 g_grid t H locs ls hf hF hP hD hS hl
            exact ((congrFun eF40 _).mp (key ((x2, x6, g_grid)) t hf hF)) H locs ls hP hD hS hl
          rw [eF28]
          obtain ⟨x2, x5, g_grid⟩ := q
          intro H locs ls hP hD hS hl
          have hP : va_P D vwCl [(a_this, .inr (8, [.int g_length, .ref a_text, .ref a_now, .ref a_before, .int g_undoMany, .ref a_read, .int g_spot, .ref a_first, .ref a_second, .ref a_sums, .ref a_other, .int g_step, .int g_coverMany, .ref a_grid, .ref a_order, .int g_leastSums, .int g_leastPart])), (a_first, .inl (cI, 41, .inl g_first)), (a_grid, .inl (cI, 5, .inl g_grid))] H := hP
          have hD : va_D A [(a_this, .inr (8, [.int g_length, .ref a_text, .ref a_now, .ref a_before, .int g_undoMany, .ref a_read, .int g_spot, .ref a_first, .ref a_second, .ref a_sums, .ref a_other, .int g_step, .int g_coverMany, .ref a_grid, .ref a_order, .int g_leastSums, .int g_leastPart])), (a_first, .inl (cI, 41, .inl g_first)), (a_grid, .inl (cI, 5, .inl g_grid))] := hD
          have hl : lv_has ls 8 [(0, .ref a_this), (1, .int x1), (2, .int x2), (3, .int x3), (4, .int x4), (5, .int x5)] := hl
          have hf : bX8_findGrid_28 x1 x3 x4 g_first x2 x5 g_grid = some t := hf
          unfold bX8_findGrid_28 at hf
          refine lv_iload hx hb dX8_findGrid_28 (lv_at hl 4 rfl) ?_
          refine lv_iload hx hb dX8_findGrid_30 (lv_at hl 5 rfl) ?_
          refine lv_iadd hx hb dX8_findGrid_32 ?_
          refine lv_iload_n hx hb dX8_findGrid_33 rfl (lv_at hl 3 rfl) ?_
          refine lv_icmp_gt (tgt := 157) hx hb dX8_findGrid_34 (by decide) (fun c20 => ?_) (fun c20 => ?_)
          · have hf := br_pos c20 hf
            obtain ⟨y21, ey21⟩ : ∃ z : Int32, z = x4 + (1 : Int32) := ⟨_, rfl⟩
            have hf := lt_some hf y21 ey21
            refine lv_iinc (v := y21) (lv' := [(4, .int y21), (0, .ref a_this), (1, .int x1), (2, .int x2), (3, .int x3), (5, .int x5)]) hx hb dX8_findGrid_157 hl (k := 4) rfl (by rw [ey21]; rfl) (by decide) rfl (fun ls hl => ?_)
            refine lv_goto (tgt := 16) hx hb dX8_findGrid_160 (by decide) ?_
            cases hf
            exact ((congrFun eF16 _).mp hF) H locs ls hP hD hS (lv_sub hl [1, 2, 3, 4, 0] rfl)
          · have hf := br_neg c20 hf
            refine lv_iconst (v := 2) hx hb dX8_findGrid_37 (by decide) ?_
            refine lv_istore (lv' := [(6, .int (2 : Int32)), (0, .ref a_this), (1, .int x1), (2, .int x2), (3, .int x3), (4, .int x4), (5, .int x5)]) hx hb dX8_findGrid_38 hl (by decide) rfl (fun ls hl => ?_)
            exact w40 x5 x2 (2 : Int32) g_grid _ H locs ls hf hF hP hD hS (lv_sub hl [1, 2, 3, 4, 5, 6, 0] rfl)
        intro x2 x5 g_grid t H locs ls hf hF hP hD hS hl
        exact ((congrFun eF28 _).mp (key ((x2, x5, g_grid)) t hf hF)) H locs ls hP hD hS hl
      rw [eF16]
      obtain ⟨x2, x4, g_grid⟩ := q
      intro H locs ls hP hD hS hl
      have hP : va_P D vwCl [(a_this, .inr (8, [.int g_length, .ref a_text, .ref a_now, .ref a_before, .int g_undoMany, .ref a_read, .int g_spot, .ref a_first, .ref a_second, .ref a_sums, .ref a_other, .int g_step, .int g_coverMany, .ref a_grid, .ref a_order, .int g_leastSums, .int g_leastPart])), (a_first, .inl (cI, 41, .inl g_first)), (a_grid, .inl (cI, 5, .inl g_grid))] H := hP
      have hD : va_D A [(a_this, .inr (8, [.int g_length, .ref a_text, .ref a_now, .ref a_before, .int g_undoMany, .ref a_read, .int g_spot, .ref a_first, .ref a_second, .ref a_sums, .ref a_other, .int g_step, .int g_coverMany, .ref a_grid, .ref a_order, .int g_leastSums, .int g_leastPart])), (a_first, .inl (cI, 41, .inl g_first)), (a_grid, .inl (cI, 5, .inl g_grid))] := hD
      have hl : lv_has ls 8 [(0, .ref a_this), (1, .int x1), (2, .int x2), (3, .int x3), (4, .int x4)] := hl
      have hf : bX8_findGrid_16 x1 x3 g_first x2 x4 g_grid = some t := hf
      unfold bX8_findGrid_16 at hf
      refine lv_iload hx hb dX8_findGrid_16 (lv_at hl 4 rfl) ?_
      refine lv_iload_n hx hb dX8_findGrid_18 rfl (lv_at hl 3 rfl) ?_
      refine lv_icmp_ge (tgt := 163) hx hb dX8_findGrid_19 (by decide) (fun c22 => ?_) (fun c22 => ?_)
      · have hf := br_pos c22 hf
        refine lv_aload_n hx hb dX8_findGrid_163 rfl (lv_at hl 0 rfl) ?_
        refine va_get (D := D) (ci := 8) (v := .ref a_grid) (C := RX8) (T := TX8) (N := 17) hx hb hts z2 hown hN.1 hP 0 rfl rfl 13 (by decide) z3 (fun _ h9 => h9) rfl dX8_findGrid_164 ?_
        refine lv_iconst (v := 0) hx hb dX8_findGrid_167 (by decide) ?_
        refine lv_aload_n hx hb dX8_findGrid_168 rfl (lv_at hl 0 rfl) ?_
        refine va_get (D := D) (ci := 8) (v := .ref a_first) (C := RX8) (T := TX8) (N := 17) hx hb hts z2 hown hN.1 hP 0 rfl rfl 7 (by decide) z4 (fun _ h9 => h9) rfl dX8_findGrid_169 ?_
        refine lv_iconst (v := 0) hx hb dX8_findGrid_172 (by decide) ?_
        obtain ⟨c23, hf⟩ := gd_some hf
        refine va_iald hx hb hN.1 hP 1 0 rfl rfl (ix_in c23) dX8_findGrid_173 ?_
        refine lv_topi (fun y24 ey24 => ?_)
        have hf := lt_some hf y24 ey24
        obtain ⟨c25, hf⟩ := gd_some hf
        refine va_iast hx hb hN.1 hP hD hS 2 0 rfl rfl (ix_in c25) dX8_findGrid_174 (fun H locs hP hD hS => ?_)
        obtain ⟨y26, ey26⟩ : ∃ z, z = upd g_grid (0 : Int32).toNatClampNeg y24 := ⟨_, rfl⟩
        have hf := lt_some hf y26 ey26
        have hP : va_P D vwCl [(a_this, .inr (8, [.int g_length, .ref a_text, .ref a_now, .ref a_before, .int g_undoMany, .ref a_read, .int g_spot, .ref a_first, .ref a_second, .ref a_sums, .ref a_other, .int g_step, .int g_coverMany, .ref a_grid, .ref a_order, .int g_leastSums, .int g_leastPart])), (a_first, .inl (cI, 41, .inl g_first)), (a_grid, .inl (cI, 5, .inl y26))] H := by rw [ey26]; exact hP
        have hD : va_D A [(a_this, .inr (8, [.int g_length, .ref a_text, .ref a_now, .ref a_before, .int g_undoMany, .ref a_read, .int g_spot, .ref a_first, .ref a_second, .ref a_sums, .ref a_other, .int g_step, .int g_coverMany, .ref a_grid, .ref a_order, .int g_leastSums, .int g_leastPart])), (a_first, .inl (cI, 41, .inl g_first)), (a_grid, .inl (cI, 5, .inl y26))] := by rw [ey26]; exact hD
        refine lv_iload_n hx hb dX8_findGrid_175 rfl (lv_at hl 2 rfl) ?_
        refine lv_ldc (v := 1000000) hx hb hown z5 dX8_findGrid_176 ?_
        refine lv_icmp_ge (tgt := 185) hx hb dX8_findGrid_178 (by decide) (fun c27 => ?_) (fun c27 => ?_)
        · have hf := br_pos c27 hf
          refine lv_iconst (v := 0) hx hb dX8_findGrid_185 (by decide) ?_
          obtain ⟨c28, hf⟩ := gd_some hf
          cases hf
          have hE : ((0 : Int32), y26) = (r0, v_grid) := hF
          simp only [Prod.mk.injEq] at hE
          obtain ⟨rfl, rfl⟩ := hE
          exact rtZ hx hb hr hlk c28 hP hD hS dX8_findGrid_186
        · have hf := br_neg c27 hf
          refine lv_iconst (v := 1) hx hb dX8_findGrid_181 (by decide) ?_
          refine lv_goto (tgt := 186) hx hb dX8_findGrid_182 (by decide) ?_
          obtain ⟨c29, hf⟩ := gd_some hf
          cases hf
          have hE : ((1 : Int32), y26) = (r0, v_grid) := hF
          simp only [Prod.mk.injEq] at hE
          obtain ⟨rfl, rfl⟩ := hE
          exact rtZ hx hb hr hlk c29 hP hD hS dX8_findGrid_186
      · have hf := br_neg c22 hf
        refine lv_iload hx hb dX8_findGrid_22 (lv_at hl 4 rfl) ?_
        refine lv_iconst (v := 1) hx hb dX8_findGrid_24 (by decide) ?_
        refine lv_iadd hx hb dX8_findGrid_25 ?_
        refine lv_topi (fun y30 ey30 => ?_)
        have hf := lt_some hf y30 ey30
        refine lv_istore (lv' := [(5, .int y30), (0, .ref a_this), (1, .int x1), (2, .int x2), (3, .int x3), (4, .int x4)]) hx hb dX8_findGrid_26 hl (by decide) rfl (fun ls hl => ?_)
        exact w28 x4 x2 y30 g_grid _ H locs ls hf hF hP hD hS (lv_sub hl [1, 2, 3, 4, 5, 0] rfl)
    intro x2 x4 g_grid t H locs ls hf hF hP hD hS hl
    exact ((congrFun eF16 _).mp (key ((x2, x4, g_grid)) t hf hF)) H locs ls hP hD hS hl
  unfold fX8_findGrid at hf
  obtain ⟨H, eH⟩ : ∃ z, z = s.heap := ⟨_, rfl⟩
  obtain ⟨locs, eL⟩ : ∃ z : List Loc, z = [] := ⟨_, rfl⟩
  have hP : va_P D vwCl [(a_this, .inr (8, [.int g_length, .ref a_text, .ref a_now, .ref a_before, .int g_undoMany, .ref a_read, .int g_spot, .ref a_first, .ref a_second, .ref a_sums, .ref a_other, .int g_step, .int g_coverMany, .ref a_grid, .ref a_order, .int g_leastSums, .int g_leastPart])), (a_first, .inl (cI, 41, .inl g_first)), (a_grid, .inl (cI, 5, .inl g_grid))] H := by rw [eH]; exact hP
  have hS : va_S A s.heap H locs := by rw [eH, eL]; exact hS
  suffices hG : W p l e rmX8_findGrid s m ([.ref a_this, .int q1] : List Value).toArray below meth c H locs 0 0 (MQ below (cQi D r0 A [(a_this, .inr (8, [.int g_length, .ref a_text, .ref a_now, .ref a_before, .int g_undoMany, .ref a_read, .int g_spot, .ref a_first, .ref a_second, .ref a_sums, .ref a_other, .int g_step, .int g_coverMany, .ref a_grid, .ref a_order, .int g_leastSums, .int g_leastPart])), (a_first, .inl (cI, 41, .inl g_first)), (a_grid, .inl (cI, 5, .inl v_grid))]) ([.ref a_this, .int q1] : List Value).toArray s 0 0 A) (F0 m 0 ls []) by rw [eH, eL] at hG; exact hG
  refine lv_ldc (v := 1000000) hx hb hown z5 dX8_findGrid_0 ?_
  refine lv_istore_n (lv' := [(2, .int (1000000 : Int32)), (0, .ref a_this), (1, .int q1)]) hx hb dX8_findGrid_2 rfl hl (by decide) rfl (fun ls hl => ?_)
  refine lv_bipush (v := 80) hx hb dX8_findGrid_3 (by decide) ?_
  refine lv_aload_n hx hb dX8_findGrid_5 rfl (lv_at hl 1 rfl) ?_
  refine va_get (D := D) (ci := 8) (v := .ref a_first) (C := RX8) (T := TX8) (N := 17) hx hb hts z2 hown hN.1 hP 0 rfl rfl 7 (by decide) z4 (fun _ h9 => h9) rfl dX8_findGrid_6 ?_
  refine lv_iconst (v := 0) hx hb dX8_findGrid_9 (by decide) ?_
  obtain ⟨c31, hf⟩ := gd_some hf
  refine va_iald hx hb hN.1 hP 1 0 rfl rfl (ix_in c31) dX8_findGrid_10 ?_
  refine lv_isub hx hb dX8_findGrid_11 ?_
  refine lv_topi (fun y32 ey32 => ?_)
  have hf := lt_some hf y32 ey32
  refine lv_istore_n (lv' := [(3, .int y32), (2, .int (1000000 : Int32)), (0, .ref a_this), (1, .int q1)]) hx hb dX8_findGrid_12 rfl hl (by decide) rfl (fun ls hl => ?_)
  refine lv_iconst (v := 1) hx hb dX8_findGrid_13 (by decide) ?_
  refine lv_istore (lv' := [(4, .int (1 : Int32)), (3, .int y32), (2, .int (1000000 : Int32)), (0, .ref a_this), (1, .int q1)]) hx hb dX8_findGrid_14 hl (by decide) rfl (fun ls hl => ?_)
  exact w16 q1 y32 g_first (1000000 : Int32) (1 : Int32) g_grid (r0, v_grid) H locs ls hf rfl hP hD hS (lv_sub hl [3, 4, 2, 1, 0] rfl)
abbrev rmX8_grid : Room := { frames := 3, cells := 0, slots := 0, locals := 82 }
noncomputable def fX8_grid (q1 : Int32) (q2 : Int32) (g_now : Nat → Int32) (g_first : Nat → Int32) (g_grid : Nat → Int32) : Option (Int32 × (Nat → Int32) × (Nat → Int32)) := bd (fX8_isSlot q1) (fun u1 => br (u1 = 0) (some (((-1 : Int32), g_first, g_grid))) (bd (fX8_in q2.toInt64 (0 : Int64) (4 : Int64)) (fun u3 => br (u3 = 0) (some (((-1 : Int32), g_first, g_grid))) (bd (fX8_lists q1 41 g_now g_first) (fun u5 => br (u5.1 = 0) (some (((-2 : Int32), u5.2, g_grid))) (bd (fX8_findGrid u5.1 u5.2 g_grid) (fun u7 => br (u7.1 = 0) (some (((-4 : Int32), u5.2, u7.2))) (gd (¬ q2 < 0 ∧ q2.toNatClampNeg < 5) (some ((u7.2 q2.toNatClampNeg, u5.2, u7.2)))))))))))
set_option maxHeartbeats 4000000 in
set_option maxRecDepth 100000 in
theorem cX8_grid_ct (l : Launch) (D : va_G) (cI cL cC cZ : ClassId) (a_this a_text a_now a_before a_read a_first a_second a_sums a_other a_grid a_order : Nat) (g_length : Int32) (g_undoMany : Int32) (g_spot : Int32) (g_step : Int32) (g_coverMany : Int32) (g_leastSums : Int32) (g_leastPart : Int32) (g_now : Nat → Int32) (g_first : Nat → Int32) (g_grid : Nat → Int32) (q1 : Int32) (q2 : Int32) (r0 : Int32) (v_first : Nat → Int32) (v_grid : Nat → Int32) (hf : fX8_grid q1 q2 g_now g_first g_grid = some ((r0, v_first, v_grid))) : CtI l yX8_grid wsX8_grid rmX8_grid D (tyz cI cL cC cZ) [.ref a_this, .int q1, .int q2] [(a_this, .inr (8, [.int g_length, .ref a_text, .ref a_now, .ref a_before, .int g_undoMany, .ref a_read, .int g_spot, .ref a_first, .ref a_second, .ref a_sums, .ref a_other, .int g_step, .int g_coverMany, .ref a_grid, .ref a_order, .int g_leastSums, .int g_leastPart])), (a_now, .inl (cZ, 164, .inl g_now)), (a_first, .inl (cI, 41, .inl g_first)), (a_grid, .inl (cI, 5, .inl g_grid))] [(a_this, .inr (8, [.int g_length, .ref a_text, .ref a_now, .ref a_before, .int g_undoMany, .ref a_read, .int g_spot, .ref a_first, .ref a_second, .ref a_sums, .ref a_other, .int g_step, .int g_coverMany, .ref a_grid, .ref a_order, .int g_leastSums, .int g_leastPart])), (a_now, .inl (cZ, 164, .inl g_now)), (a_first, .inl (cI, 41, .inl v_first)), (a_grid, .inl (cI, 5, .inl v_grid))] r0 := by
  refine CtI.make (cc := cX8_grid) (maxL := 4) (ty := .int) (by decide) rfl (Nat.le_of_ble_eq_true rfl) ?_
  intro p e s m below meth c A ls C0 hN hA hP hD hl
  obtain ⟨hx, hb, hr, hml, hown, hts, hlk⟩ := id C0
  have hown : s.vm.findClass RX8 = some m.cls := hown
  have hS : va_S A s.heap s.heap [] := va_S.rf
  have hP : va_P D vwCl [(a_this, .inr (8, [.int g_length, .ref a_text, .ref a_now, .ref a_before, .int g_undoMany, .ref a_read, .int g_spot, .ref a_first, .ref a_second, .ref a_sums, .ref a_other, .int g_step, .int g_coverMany, .ref a_grid, .ref a_order, .int g_leastSums, .int g_leastPart])), (a_now, .inl (cZ, 164, .inl g_now)), (a_first, .inl (cI, 41, .inl g_first)), (a_grid, .inl (cI, 5, .inl g_grid))] s.heap := hP
  have hD : va_D A [(a_this, .inr (8, [.int g_length, .ref a_text, .ref a_now, .ref a_before, .int g_undoMany, .ref a_read, .int g_spot, .ref a_first, .ref a_second, .ref a_sums, .ref a_other, .int g_step, .int g_coverMany, .ref a_grid, .ref a_order, .int g_leastSums, .int g_leastPart])), (a_now, .inl (cZ, 164, .inl g_now)), (a_first, .inl (cI, 41, .inl g_first)), (a_grid, .inl (cI, 5, .inl g_grid))] := hD
  have hl : lv_has ls 4 [(0, .ref a_this), (1, .int q1), (2, .int q2)] := hl
  have z1 := va_cwS (R := rmX8_grid) (rm := rmX8_isSlot) (mc := 0) (ms := 0) 1 hts gX8_grid_X8_isSlot rfl rfl rfl (by decide +kernel) ⟨Nat.le_of_ble_eq_true rfl, Nat.le_of_ble_eq_true rfl⟩
  have z2 := hts (.constantLong RX8 148 (4)) (by decide +kernel)
  have z3 := va_cwS (R := rmX8_grid) (rm := rmX8_in) (mc := 0) (ms := 0) 3 hts gX8_grid_X8_in rfl rfl rfl (by decide +kernel) ⟨Nat.le_of_ble_eq_true rfl, Nat.le_of_ble_eq_true rfl⟩
  have z4 : ∀ w ∈ u_ws RX8 TX8 17, w ∈ wsX8_grid := by decide +kernel
  have z5 := hts (.fieldLink RX8 23 "LittleSumsModel" "first" "[I") (by decide +kernel)
  have z6 := cwV (R := rmX8_grid) (rm := rmX8_lists) (mc := 0) (ms := 0) 2 hts gX8_grid_X8_lists rfl rfl rfl (by decide +kernel) ⟨Nat.le_of_ble_eq_true rfl, Nat.le_of_ble_eq_true rfl⟩
  have z7 := cwV (R := rmX8_grid) (rm := rmX8_findGrid) (mc := 0) (ms := 0) 1 hts gX8_grid_X8_findGrid rfl rfl rfl (by decide +kernel) ⟨Nat.le_of_ble_eq_true rfl, Nat.le_of_ble_eq_true rfl⟩
  have z8 := hts (.fieldLink RX8 35 "LittleSumsModel" "grid" "[I") (by decide +kernel)
  unfold fX8_grid at hf
  obtain ⟨H, eH⟩ : ∃ z, z = s.heap := ⟨_, rfl⟩
  obtain ⟨locs, eL⟩ : ∃ z : List Loc, z = [] := ⟨_, rfl⟩
  have hP : va_P D vwCl [(a_this, .inr (8, [.int g_length, .ref a_text, .ref a_now, .ref a_before, .int g_undoMany, .ref a_read, .int g_spot, .ref a_first, .ref a_second, .ref a_sums, .ref a_other, .int g_step, .int g_coverMany, .ref a_grid, .ref a_order, .int g_leastSums, .int g_leastPart])), (a_now, .inl (cZ, 164, .inl g_now)), (a_first, .inl (cI, 41, .inl g_first)), (a_grid, .inl (cI, 5, .inl g_grid))] H := by rw [eH]; exact hP
  have hS : va_S A s.heap H locs := by rw [eH, eL]; exact hS
  suffices hG : W p l e rmX8_grid s m ([.ref a_this, .int q1, .int q2] : List Value).toArray below meth c H locs 0 0 (MQ below (cQi D r0 A [(a_this, .inr (8, [.int g_length, .ref a_text, .ref a_now, .ref a_before, .int g_undoMany, .ref a_read, .int g_spot, .ref a_first, .ref a_second, .ref a_sums, .ref a_other, .int g_step, .int g_coverMany, .ref a_grid, .ref a_order, .int g_leastSums, .int g_leastPart])), (a_now, .inl (cZ, 164, .inl g_now)), (a_first, .inl (cI, 41, .inl v_first)), (a_grid, .inl (cI, 5, .inl v_grid))]) ([.ref a_this, .int q1, .int q2] : List Value).toArray s 0 0 A) (F0 m 0 ls []) by rw [eH, eL] at hG; exact hG
  refine lv_iload_n hx hb dX8_grid_0 rfl (lv_at hl 1 rfl) ?_
  obtain ⟨u1, hu1, hf⟩ := bd_some hf
  refine caSI (rest := []) (As := [.int q1]) (wr := [(a_this, .inr (8, [.int g_length, .ref a_text, .ref a_now, .ref a_before, .int g_undoMany, .ref a_read, .int g_spot, .ref a_first, .ref a_second, .ref a_sums, .ref a_other, .int g_step, .int g_coverMany, .ref a_grid, .ref a_order, .int g_leastSums, .int g_leastPart])), (a_now, .inl (cZ, 164, .inl g_now)), (a_first, .inl (cI, 41, .inl g_first)), (a_grid, .inl (cI, 5, .inl g_grid))]) (wo := [(a_this, .inr (8, [.int g_length, .ref a_text, .ref a_now, .ref a_before, .int g_undoMany, .ref a_read, .int g_spot, .ref a_first, .ref a_second, .ref a_sums, .ref a_other, .int g_step, .int g_coverMany, .ref a_grid, .ref a_order, .int g_leastSums, .int g_leastPart])), (a_now, .inl (cZ, 164, .inl g_now)), (a_first, .inl (cI, 41, .inl g_first)), (a_grid, .inl (cI, 5, .inl g_grid))]) ⟨hx, hb, hml, hown, hts⟩ hN hP hD hS hA (cX8_isSlot_ct l D cI cL cC cZ q1 u1 hu1) z1 [] [0, 1, 2, 3] [0, 1, 2, 3] rfl (by decide) rfl (by decide) (by decide) rfl (by decide) rfl hl.1 rfl (Nat.le_of_ble_eq_true rfl) dX8_grid_1 ⟨Nat.zero_le _, Nat.zero_le _⟩ (fun H locs hP hD hS => ?_)
  refine lv_if_eq (tgt := 19) hx hb dX8_grid_4 (by decide) (fun c2 => ?_) (fun c2 => ?_)
  · have hf := br_pos c2 hf
    refine lv_iconst (v := -1) hx hb dX8_grid_19 (by decide) ?_
    have hE : ((-1 : Int32), g_first, g_grid) = (r0, v_first, v_grid) := Option.some.inj hf
    simp only [Prod.mk.injEq] at hE
    obtain ⟨rfl, rfl, rfl⟩ := hE
    exact rtI hx hb hr hlk hP hD hS dX8_grid_20
  · have hf := br_neg c2 hf
    refine lv_iload_n hx hb dX8_grid_7 rfl (lv_at hl 2 rfl) ?_
    refine lv_i2l hx hb dX8_grid_8 rfl ?_
    refine lv_lconst (v := 0) hx hb dX8_grid_9 (by decide) ?_
    refine lv_ldc2 (v := 4) hx hb hown z2 dX8_grid_10 ?_
    obtain ⟨u3, hu3, hf⟩ := bd_some hf
    refine caSI (rest := []) (As := [.long q2.toInt64, .long (0 : Int64), .long (4 : Int64)]) (wr := [(a_this, .inr (8, [.int g_length, .ref a_text, .ref a_now, .ref a_before, .int g_undoMany, .ref a_read, .int g_spot, .ref a_first, .ref a_second, .ref a_sums, .ref a_other, .int g_step, .int g_coverMany, .ref a_grid, .ref a_order, .int g_leastSums, .int g_leastPart])), (a_now, .inl (cZ, 164, .inl g_now)), (a_first, .inl (cI, 41, .inl g_first)), (a_grid, .inl (cI, 5, .inl g_grid))]) (wo := [(a_this, .inr (8, [.int g_length, .ref a_text, .ref a_now, .ref a_before, .int g_undoMany, .ref a_read, .int g_spot, .ref a_first, .ref a_second, .ref a_sums, .ref a_other, .int g_step, .int g_coverMany, .ref a_grid, .ref a_order, .int g_leastSums, .int g_leastPart])), (a_now, .inl (cZ, 164, .inl g_now)), (a_first, .inl (cI, 41, .inl g_first)), (a_grid, .inl (cI, 5, .inl g_grid))]) ⟨hx, hb, hml, hown, hts⟩ hN hP hD hS hA (cX8_in_ct l D cI cL cC cZ q2.toInt64 (0 : Int64) (4 : Int64) u3 hu3) z3 [] [0, 1, 2, 3] [0, 1, 2, 3] rfl (by decide) rfl (by decide) (by decide) rfl (by decide) rfl hl.1 rfl (Nat.le_of_ble_eq_true rfl) dX8_grid_13 ⟨Nat.zero_le _, Nat.zero_le _⟩ (fun H locs hP hD hS => ?_)
    refine lv_if_ne (tgt := 21) hx hb dX8_grid_16 (by decide) (fun c4 => ?_) (fun c4 => ?_)
    · have hf := br_neg c4 hf
      refine lv_aload_n hx hb dX8_grid_21 rfl (lv_at hl 0 rfl) ?_
      refine lv_iload_n hx hb dX8_grid_22 rfl (lv_at hl 1 rfl) ?_
      refine lv_aload_n hx hb dX8_grid_23 rfl (lv_at hl 0 rfl) ?_
      refine va_get (D := D) (ci := 8) (v := .ref a_first) (C := RX8) (T := TX8) (N := 17) hx hb hts z4 hown hN.1 hP 0 rfl rfl 7 (by decide) z5 (fun _ h9 => h9) rfl dX8_grid_24 ?_
      obtain ⟨u5, hu5, hf⟩ := bd_some hf
      refine caVI (rest := []) (As := [.int q1, .ref a_first]) (wr := [(a_grid, .inl (cI, 5, .inl g_grid))]) (wo := [(a_this, .inr (8, [.int g_length, .ref a_text, .ref a_now, .ref a_before, .int g_undoMany, .ref a_read, .int g_spot, .ref a_first, .ref a_second, .ref a_sums, .ref a_other, .int g_step, .int g_coverMany, .ref a_grid, .ref a_order, .int g_leastSums, .int g_leastPart])), (a_now, .inl (cZ, 164, .inl g_now)), (a_first, .inl (cI, 41, .inl u5.2)), (a_grid, .inl (cI, 5, .inl g_grid))]) ⟨hx, hb, hml, hown, hts⟩ hN hP hD hS hA (cX8_lists_ct l D cI cL cC cZ a_this a_first a_text a_now a_before a_read a_first a_second a_sums a_other a_grid a_order 41 g_length g_undoMany g_spot g_step g_coverMany g_leastSums g_leastPart g_now g_first q1 u5.1 u5.2 hu5) z6 0 8 rfl rfl [0, 1, 2] [3] [1, 2, 3, 0] rfl (by decide) rfl (by decide) (by decide) rfl (by decide) rfl hl.1 rfl (Nat.le_of_ble_eq_true rfl) dX8_grid_27 ⟨Nat.zero_le _, Nat.zero_le _⟩ (fun H locs hP hD hS => ?_)
      refine lv_istore_n (lv' := [(3, .int u5.1), (0, .ref a_this), (1, .int q1), (2, .int q2)]) hx hb dX8_grid_30 rfl hl (by decide) rfl (fun ls hl => ?_)
      refine lv_iload_n hx hb dX8_grid_31 rfl (lv_at hl 0 rfl) ?_
      refine lv_if_ne (tgt := 38) hx hb dX8_grid_32 (by decide) (fun c6 => ?_) (fun c6 => ?_)
      · have hf := br_neg c6 hf
        refine lv_aload_n hx hb dX8_grid_38 rfl (lv_at hl 1 rfl) ?_
        refine lv_iload_n hx hb dX8_grid_39 rfl (lv_at hl 0 rfl) ?_
        obtain ⟨u7, hu7, hf⟩ := bd_some hf
        refine caVI (rest := []) (As := [.int u5.1]) (wr := [(a_now, .inl (cZ, 164, .inl g_now))]) (wo := [(a_this, .inr (8, [.int g_length, .ref a_text, .ref a_now, .ref a_before, .int g_undoMany, .ref a_read, .int g_spot, .ref a_first, .ref a_second, .ref a_sums, .ref a_other, .int g_step, .int g_coverMany, .ref a_grid, .ref a_order, .int g_leastSums, .int g_leastPart])), (a_now, .inl (cZ, 164, .inl g_now)), (a_first, .inl (cI, 41, .inl u5.2)), (a_grid, .inl (cI, 5, .inl u7.2))]) ⟨hx, hb, hml, hown, hts⟩ hN hP hD hS hA (cX8_findGrid_ct l D cI cL cC cZ a_this a_text a_now a_before a_read a_first a_second a_sums a_other a_grid a_order g_length g_undoMany g_spot g_step g_coverMany g_leastSums g_leastPart u5.2 g_grid u5.1 u7.1 u7.2 hu7) z7 0 8 rfl rfl [0, 2, 3] [1] [1, 0, 2, 3] rfl (by decide) rfl (by decide) (by decide) rfl (by decide) rfl hl.1 rfl (Nat.le_of_ble_eq_true rfl) dX8_grid_40 ⟨Nat.zero_le _, Nat.zero_le _⟩ (fun H locs hP hD hS => ?_)
        refine lv_if_eq (tgt := 55) hx hb dX8_grid_43 (by decide) (fun c8 => ?_) (fun c8 => ?_)
        · have hf := br_pos c8 hf
          refine lv_bipush (v := -4) hx hb dX8_grid_55 (by decide) ?_
          have hE : ((-4 : Int32), u5.2, u7.2) = (r0, v_first, v_grid) := Option.some.inj hf
          simp only [Prod.mk.injEq] at hE
          obtain ⟨rfl, rfl, rfl⟩ := hE
          exact rtI hx hb hr hlk hP hD hS dX8_grid_57
        · have hf := br_neg c8 hf
          refine lv_aload_n hx hb dX8_grid_46 rfl (lv_at hl 1 rfl) ?_
          refine va_get (D := D) (ci := 8) (v := .ref a_grid) (C := RX8) (T := TX8) (N := 17) hx hb hts z4 hown hN.1 hP 0 rfl rfl 13 (by decide) z8 (fun _ h9 => h9) rfl dX8_grid_47 ?_
          refine lv_iload_n hx hb dX8_grid_50 rfl (lv_at hl 3 rfl) ?_
          obtain ⟨c9, hf⟩ := gd_some hf
          refine va_iald hx hb hN.1 hP 3 0 rfl rfl (ix_in c9) dX8_grid_51 ?_
          refine lv_goto (tgt := 57) hx hb dX8_grid_52 (by decide) ?_
          have hE : (u7.2 q2.toNatClampNeg, u5.2, u7.2) = (r0, v_first, v_grid) := Option.some.inj hf
          simp only [Prod.mk.injEq] at hE
          obtain ⟨rfl, rfl, rfl⟩ := hE
          exact rtI hx hb hr hlk hP hD hS dX8_grid_57
      · have hf := br_pos c6 hf
        refine lv_bipush (v := -2) hx hb dX8_grid_35 (by decide) ?_
        have hE : ((-2 : Int32), u5.2, g_grid) = (r0, v_first, v_grid) := Option.some.inj hf
        simp only [Prod.mk.injEq] at hE
        obtain ⟨rfl, rfl, rfl⟩ := hE
        exact rtI hx hb hr hlk hP hD hS dX8_grid_37
    · have hf := br_pos c4 hf
      refine lv_iconst (v := -1) hx hb dX8_grid_19 (by decide) ?_
      have hE : ((-1 : Int32), g_first, g_grid) = (r0, v_first, v_grid) := Option.some.inj hf
      simp only [Prod.mk.injEq] at hE
      obtain ⟨rfl, rfl, rfl⟩ := hE
      exact rtI hx hb hr hlk hP hD hS dX8_grid_20
abbrev rmX8_isPairing : Room := { frames := 0, cells := 0, slots := 0, locals := 0 }
noncomputable def bX8_isPairing_159 (x1 : Int32) (x2 : Int32) (x3 : Int32) (g_first : Nat → Int32) (g_second : Nat → Int32) (g_order : Nat → Int32) : Option ((Int32 × Int32) ⊕ (Int32)) := lt_ (x3 + (1 : Int32)) (fun y1 => some (Sum.inl ((x2, y1))))
noncomputable def bX8_isPairing_152 (x1 : Int32) (x3 : Int32) (x4 : Int32) (k0 : Int32) (g_first : Nat → Int32) (g_second : Nat → Int32) (g_order : Nat → Int32) : Option ((Int32 × Int32) ⊕ ((Int32 × Int32) ⊕ (Int32))) := lt_ (x4 + (1 : Int32)) (fun y2 => some (Sum.inl ((k0, y2))))
noncomputable def bX8_isPairing_138 (x1 : Int32) (x3 : Int32) (x4 : Int32) (x5 : Int32) (k0 : Int32) (g_first : Nat → Int32) (g_second : Nat → Int32) (g_order : Nat → Int32) : Option ((Int32 × Int32) ⊕ ((Int32 × Int32) ⊕ (Int32))) := br (x5 = k0) (bX8_isPairing_152 x1 x3 x4 (1 : Int32) g_first g_second g_order) (bX8_isPairing_152 x1 x3 x4 (0 : Int32) g_first g_second g_order)
noncomputable def bX8_isPairing_72 (x1 : Int32) (x3 : Int32) (x4 : Int32) (k0 : Int32) (g_first : Nat → Int32) (g_second : Nat → Int32) (g_order : Nat → Int32) : Option ((Int32 × Int32) ⊕ ((Int32 × Int32) ⊕ (Int32))) := gd (¬ x1 = 0) (lt_ (x3 / x1) (fun y5 => gd (¬ y5 < 0 ∧ y5.toNatClampNeg < 7) (gd (¬ (g_order y5.toNatClampNeg) < 0 ∧ (g_order y5.toNatClampNeg).toNatClampNeg < 41) (gd (¬ x1 = 0) (lt_ (x3 - x3 / x1 * x1) (fun y9 => gd (¬ y9 < 0 ∧ y9.toNatClampNeg < 7) (gd (¬ (g_order y9.toNatClampNeg) < 0 ∧ (g_order y9.toNatClampNeg).toNatClampNeg < 41) (gd (¬ x1 = 0) (lt_ (x4 / x1) (fun y13 => gd (¬ y13 < 0 ∧ y13.toNatClampNeg < 7) (gd (¬ (g_order y13.toNatClampNeg) < 0 ∧ (g_order y13.toNatClampNeg).toNatClampNeg < 41) (gd (¬ x1 = 0) (lt_ (x4 - x4 / x1 * x1) (fun y17 => gd (¬ y17 < 0 ∧ y17.toNatClampNeg < 7) (gd (¬ (g_order y17.toNatClampNeg) < 0 ∧ (g_order y17.toNatClampNeg).toNatClampNeg < 41) (br (((g_second (g_order y5.toNatClampNeg).toNatClampNeg) + (g_second (g_order y9.toNatClampNeg).toNatClampNeg)) = ((g_second (g_order y13.toNatClampNeg).toNatClampNeg) + (g_second (g_order y17.toNatClampNeg).toNatClampNeg))) (bX8_isPairing_138 x1 x3 x4 k0 (1 : Int32) g_first g_second g_order) (bX8_isPairing_138 x1 x3 x4 k0 (0 : Int32) g_first g_second g_order)))))))))))))))))
noncomputable def bX8_isPairing_18 (x1 : Int32) (x3 : Int32) (g_first : Nat → Int32) (g_second : Nat → Int32) (g_order : Nat → Int32) (x2 : Int32) (x4 : Int32) : Option ((Int32 × Int32) ⊕ ((Int32 × Int32) ⊕ (Int32))) := br (x3 ≤ x4) (ml (bX8_isPairing_159 x1 x2 x3 g_first g_second g_order)) (br (x2 = 0) (ml (bX8_isPairing_159 x1 x2 x3 g_first g_second g_order)) (gd (¬ x1 = 0) (lt_ (x3 / x1) (fun y26 => gd (¬ y26 < 0 ∧ y26.toNatClampNeg < 41) (gd (¬ x1 = 0) (lt_ (x3 - x3 / x1 * x1) (fun y29 => gd (¬ y29 < 0 ∧ y29.toNatClampNeg < 41) (gd (¬ x1 = 0) (lt_ (x4 / x1) (fun y32 => gd (¬ y32 < 0 ∧ y32.toNatClampNeg < 41) (gd (¬ x1 = 0) (lt_ (x4 - x4 / x1 * x1) (fun y35 => gd (¬ y35 < 0 ∧ y35.toNatClampNeg < 41) (br (((g_first y26.toNatClampNeg) + (g_first y29.toNatClampNeg)) = ((g_first y32.toNatClampNeg) + (g_first y35.toNatClampNeg))) (bX8_isPairing_72 x1 x3 x4 (1 : Int32) g_first g_second g_order) (bX8_isPairing_72 x1 x3 x4 (0 : Int32) g_first g_second g_order)))))))))))))))
noncomputable def sX8_isPairing_18 (x1 : Int32) (x3 : Int32) (g_first : Nat → Int32) (g_second : Nat → Int32) (g_order : Nat → Int32) : (Int32 × Int32) → Option ((Int32 × Int32) ⊕ ((Int32 × Int32) ⊕ (Int32))) := fun q => bX8_isPairing_18 x1 x3 g_first g_second g_order q.1 q.2
noncomputable def bX8_isPairing_4 (x1 : Int32) (g_first : Nat → Int32) (g_second : Nat → Int32) (g_order : Nat → Int32) (x2 : Int32) (x3 : Int32) : Option ((Int32 × Int32) ⊕ (Int32)) := br ((x1 * x1) ≤ x3) (gd (x2 = 0 ∨ x2 = 1) (some (Sum.inr (x2)))) (br (x2 = 0) (gd (x2 = 0 ∨ x2 = 1) (some (Sum.inr (x2)))) (run (sX8_isPairing_18 x1 x3 g_first g_second g_order) ((x2, (0 : Int32)))))
noncomputable def sX8_isPairing_4 (x1 : Int32) (g_first : Nat → Int32) (g_second : Nat → Int32) (g_order : Nat → Int32) : (Int32 × Int32) → Option ((Int32 × Int32) ⊕ (Int32)) := fun q => bX8_isPairing_4 x1 g_first g_second g_order q.1 q.2
noncomputable def fX8_isPairing (q1 : Int32) (g_first : Nat → Int32) (g_second : Nat → Int32) (g_order : Nat → Int32) : Option (Int32) := run (sX8_isPairing_4 q1 g_first g_second g_order) (((1 : Int32), (0 : Int32)))
set_option maxHeartbeats 4000000 in
set_option maxRecDepth 100000 in
theorem cX8_isPairing_ct (l : Launch) (D : va_G) (cI cL cC cZ : ClassId) (a_this a_text a_now a_before a_read a_first a_second a_sums a_other a_grid a_order : Nat) (g_length : Int32) (g_undoMany : Int32) (g_spot : Int32) (g_step : Int32) (g_coverMany : Int32) (g_leastSums : Int32) (g_leastPart : Int32) (g_first : Nat → Int32) (g_second : Nat → Int32) (g_order : Nat → Int32) (q1 : Int32) (r0 : Int32) (hf : fX8_isPairing q1 g_first g_second g_order = some r0) : CtI l yX8_isPairing wsX8_isPairing rmX8_isPairing D (tyz cI cL cC cZ) [.ref a_this, .int q1] [(a_this, .inr (8, [.int g_length, .ref a_text, .ref a_now, .ref a_before, .int g_undoMany, .ref a_read, .int g_spot, .ref a_first, .ref a_second, .ref a_sums, .ref a_other, .int g_step, .int g_coverMany, .ref a_grid, .ref a_order, .int g_leastSums, .int g_leastPart])), (a_first, .inl (cI, 41, .inl g_first)), (a_second, .inl (cI, 41, .inl g_second)), (a_order, .inl (cI, 7, .inl g_order))] [(a_this, .inr (8, [.int g_length, .ref a_text, .ref a_now, .ref a_before, .int g_undoMany, .ref a_read, .int g_spot, .ref a_first, .ref a_second, .ref a_sums, .ref a_other, .int g_step, .int g_coverMany, .ref a_grid, .ref a_order, .int g_leastSums, .int g_leastPart])), (a_first, .inl (cI, 41, .inl g_first)), (a_second, .inl (cI, 41, .inl g_second)), (a_order, .inl (cI, 7, .inl g_order))] r0 := by
  refine CtI.make (cc := cX8_isPairing) (maxL := 7) (ty := .boolean) (by decide) rfl (Nat.le_of_ble_eq_true rfl) ?_
  intro p e s m below meth c A ls C0 hN hA hP hD hl
  obtain ⟨hx, hb, hr, hml, hown, hts, hlk⟩ := id C0
  have hown : s.vm.findClass RX8 = some m.cls := hown
  have hS : va_S A s.heap s.heap [] := va_S.rf
  have hP : va_P D vwCl [(a_this, .inr (8, [.int g_length, .ref a_text, .ref a_now, .ref a_before, .int g_undoMany, .ref a_read, .int g_spot, .ref a_first, .ref a_second, .ref a_sums, .ref a_other, .int g_step, .int g_coverMany, .ref a_grid, .ref a_order, .int g_leastSums, .int g_leastPart])), (a_first, .inl (cI, 41, .inl g_first)), (a_second, .inl (cI, 41, .inl g_second)), (a_order, .inl (cI, 7, .inl g_order))] s.heap := hP
  have hD : va_D A [(a_this, .inr (8, [.int g_length, .ref a_text, .ref a_now, .ref a_before, .int g_undoMany, .ref a_read, .int g_spot, .ref a_first, .ref a_second, .ref a_sums, .ref a_other, .int g_step, .int g_coverMany, .ref a_grid, .ref a_order, .int g_leastSums, .int g_leastPart])), (a_first, .inl (cI, 41, .inl g_first)), (a_second, .inl (cI, 41, .inl g_second)), (a_order, .inl (cI, 7, .inl g_order))] := hD
  have hl : lv_has ls 7 [(0, .ref a_this), (1, .int q1)] := hl
  have z1 : ∀ w ∈ u_ws RX8 TX8 17, w ∈ wsX8_isPairing := by decide +kernel
  have z2 := hts (.fieldLink RX8 26 "LittleSumsModel" "second" "[I") (by decide +kernel)
  have z3 := hts (.fieldLink RX8 38 "LittleSumsModel" "order" "[I") (by decide +kernel)
  have z4 := hts (.fieldLink RX8 23 "LittleSumsModel" "first" "[I") (by decide +kernel)
  have w4 : ∀ (x1 : Int32) (g_first : Nat → Int32) (g_second : Nat → Int32) (g_order : Nat → Int32) (x2 : Int32) (x3 : Int32) (t : Int32) (H : Heap) (locs : List Loc) (ls : Array Slot), run (sX8_isPairing_4 x1 g_first g_second g_order) ((x2, x3)) = some t → (fun z => z = r0) t → va_P D vwCl [(a_this, .inr (8, [.int g_length, .ref a_text, .ref a_now, .ref a_before, .int g_undoMany, .ref a_read, .int g_spot, .ref a_first, .ref a_second, .ref a_sums, .ref a_other, .int g_step, .int g_coverMany, .ref a_grid, .ref a_order, .int g_leastSums, .int g_leastPart])), (a_first, .inl (cI, 41, .inl g_first)), (a_second, .inl (cI, 41, .inl g_second)), (a_order, .inl (cI, 7, .inl g_order))] H → va_D A [(a_this, .inr (8, [.int g_length, .ref a_text, .ref a_now, .ref a_before, .int g_undoMany, .ref a_read, .int g_spot, .ref a_first, .ref a_second, .ref a_sums, .ref a_other, .int g_step, .int g_coverMany, .ref a_grid, .ref a_order, .int g_leastSums, .int g_leastPart])), (a_first, .inl (cI, 41, .inl g_first)), (a_second, .inl (cI, 41, .inl g_second)), (a_order, .inl (cI, 7, .inl g_order))] → va_S A s.heap H locs → lv_has ls 7 [(0, .ref a_this), (1, .int x1), (2, .int x2), (3, .int x3)] → W p l e rmX8_isPairing s m ([.ref a_this, .int q1] : List Value).toArray below meth c H locs 0 0 (MQ below (cQi D r0 A [(a_this, .inr (8, [.int g_length, .ref a_text, .ref a_now, .ref a_before, .int g_undoMany, .ref a_read, .int g_spot, .ref a_first, .ref a_second, .ref a_sums, .ref a_other, .int g_step, .int g_coverMany, .ref a_grid, .ref a_order, .int g_leastSums, .int g_leastPart])), (a_first, .inl (cI, 41, .inl g_first)), (a_second, .inl (cI, 41, .inl g_second)), (a_order, .inl (cI, 7, .inl g_order))]) ([.ref a_this, .int q1] : List Value).toArray s 0 0 A) (F0 m 4 ls []) := by
    intro x1 g_first g_second g_order
    obtain ⟨F4, eF4⟩ : ∃ F : (Int32 × Int32) → Prop, F = fun q => ∀ (H : Heap) (locs : List Loc) (ls : Array Slot), va_P D vwCl [(a_this, .inr (8, [.int g_length, .ref a_text, .ref a_now, .ref a_before, .int g_undoMany, .ref a_read, .int g_spot, .ref a_first, .ref a_second, .ref a_sums, .ref a_other, .int g_step, .int g_coverMany, .ref a_grid, .ref a_order, .int g_leastSums, .int g_leastPart])), (a_first, .inl (cI, 41, .inl g_first)), (a_second, .inl (cI, 41, .inl g_second)), (a_order, .inl (cI, 7, .inl g_order))] H → va_D A [(a_this, .inr (8, [.int g_length, .ref a_text, .ref a_now, .ref a_before, .int g_undoMany, .ref a_read, .int g_spot, .ref a_first, .ref a_second, .ref a_sums, .ref a_other, .int g_step, .int g_coverMany, .ref a_grid, .ref a_order, .int g_leastSums, .int g_leastPart])), (a_first, .inl (cI, 41, .inl g_first)), (a_second, .inl (cI, 41, .inl g_second)), (a_order, .inl (cI, 7, .inl g_order))] → va_S A s.heap H locs → lv_has ls 7 [(0, .ref a_this), (1, .int x1), (2, .int q.1), (3, .int q.2)] → W p l e rmX8_isPairing s m ([.ref a_this, .int q1] : List Value).toArray below meth c H locs 0 0 (MQ below (cQi D r0 A [(a_this, .inr (8, [.int g_length, .ref a_text, .ref a_now, .ref a_before, .int g_undoMany, .ref a_read, .int g_spot, .ref a_first, .ref a_second, .ref a_sums, .ref a_other, .int g_step, .int g_coverMany, .ref a_grid, .ref a_order, .int g_leastSums, .int g_leastPart])), (a_first, .inl (cI, 41, .inl g_first)), (a_second, .inl (cI, 41, .inl g_second)), (a_order, .inl (cI, 7, .inl g_order))]) ([.ref a_this, .int q1] : List Value).toArray s 0 0 A) (F0 m 4 ls []) := ⟨_, rfl⟩
    have key : ∀ (q : Int32 × Int32) (t : Int32), run (sX8_isPairing_4 x1 g_first g_second g_order) q = some t → (fun z => z = r0) t → F4 q := by
      refine loop_rule (sX8_isPairing_4 x1 g_first g_second g_order) F4 (fun z => z = r0) ?_
      intro q t hf hF
      have hF : (Sum.elim F4 (fun z => z = r0)) t := hF
      have w159 : ∀ (x2 : Int32) (x3 : Int32) (t : (Int32 × Int32) ⊕ (Int32)) (H : Heap) (locs : List Loc) (ls : Array Slot), bX8_isPairing_159 x1 x2 x3 g_first g_second g_order = some t → (Sum.elim F4 (fun z => z = r0)) t → va_P D vwCl [(a_this, .inr (8, [.int g_length, .ref a_text, .ref a_now, .ref a_before, .int g_undoMany, .ref a_read, .int g_spot, .ref a_first, .ref a_second, .ref a_sums, .ref a_other, .int g_step, .int g_coverMany, .ref a_grid, .ref a_order, .int g_leastSums, .int g_leastPart])), (a_first, .inl (cI, 41, .inl g_first)), (a_second, .inl (cI, 41, .inl g_second)), (a_order, .inl (cI, 7, .inl g_order))] H → va_D A [(a_this, .inr (8, [.int g_length, .ref a_text, .ref a_now, .ref a_before, .int g_undoMany, .ref a_read, .int g_spot, .ref a_first, .ref a_second, .ref a_sums, .ref a_other, .int g_step, .int g_coverMany, .ref a_grid, .ref a_order, .int g_leastSums, .int g_leastPart])), (a_first, .inl (cI, 41, .inl g_first)), (a_second, .inl (cI, 41, .inl g_second)), (a_order, .inl (cI, 7, .inl g_order))] → va_S A s.heap H locs → lv_has ls 7 [(0, .ref a_this), (1, .int x1), (2, .int x2), (3, .int x3)] → W p l e rmX8_isPairing s m ([.ref a_this, .int q1] : List Value).toArray below meth c H locs 0 0 (MQ below (cQi D r0 A [(a_this, .inr (8, [.int g_length, .ref a_text, .ref a_now, .ref a_before, .int g_undoMany, .ref a_read, .int g_spot, .ref a_first, .ref a_second, .ref a_sums, .ref a_other, .int g_step, .int g_coverMany, .ref a_grid, .ref a_order, .int g_leastSums, .int g_leastPart])), (a_first, .inl (cI, 41, .inl g_first)), (a_second, .inl (cI, 41, .inl g_second)), (a_order, .inl (cI, 7, .inl g_order))]) ([.ref a_this, .int q1] : List Value).toArray s 0 0 A) (F0 m 159 ls []) := by
        intro x2 x3 t H locs ls hf hF hP hD hS hl
        unfold bX8_isPairing_159 at hf
        obtain ⟨y1, ey1⟩ : ∃ z : Int32, z = x3 + (1 : Int32) := ⟨_, rfl⟩
        have hf := lt_some hf y1 ey1
        refine lv_iinc (v := y1) (lv' := [(3, .int y1), (0, .ref a_this), (1, .int x1), (2, .int x2)]) hx hb dX8_isPairing_159 hl (k := 3) rfl (by rw [ey1]; rfl) (by decide) rfl (fun ls hl => ?_)
        refine lv_goto (tgt := 4) hx hb dX8_isPairing_162 (by decide) ?_
        cases hf
        exact ((congrFun eF4 _).mp hF) H locs ls hP hD hS (lv_sub hl [1, 2, 3, 0] rfl)
      have w18 : ∀ (x3 : Int32) (x2 : Int32) (x4 : Int32) (t : (Int32 × Int32) ⊕ (Int32)) (H : Heap) (locs : List Loc) (ls : Array Slot), run (sX8_isPairing_18 x1 x3 g_first g_second g_order) ((x2, x4)) = some t → (Sum.elim F4 (fun z => z = r0)) t → va_P D vwCl [(a_this, .inr (8, [.int g_length, .ref a_text, .ref a_now, .ref a_before, .int g_undoMany, .ref a_read, .int g_spot, .ref a_first, .ref a_second, .ref a_sums, .ref a_other, .int g_step, .int g_coverMany, .ref a_grid, .ref a_order, .int g_leastSums, .int g_leastPart])), (a_first, .inl (cI, 41, .inl g_first)), (a_second, .inl (cI, 41, .inl g_second)), (a_order, .inl (cI, 7, .inl g_order))] H → va_D A [(a_this, .inr (8, [.int g_length, .ref a_text, .ref a_now, .ref a_before, .int g_undoMany, .ref a_read, .int g_spot, .ref a_first, .ref a_second, .ref a_sums, .ref a_other, .int g_step, .int g_coverMany, .ref a_grid, .ref a_order, .int g_leastSums, .int g_leastPart])), (a_first, .inl (cI, 41, .inl g_first)), (a_second, .inl (cI, 41, .inl g_second)), (a_order, .inl (cI, 7, .inl g_order))] → va_S A s.heap H locs → lv_has ls 7 [(0, .ref a_this), (1, .int x1), (2, .int x2), (3, .int x3), (4, .int x4)] → W p l e rmX8_isPairing s m ([.ref a_this, .int q1] : List Value).toArray below meth c H locs 0 0 (MQ below (cQi D r0 A [(a_this, .inr (8, [.int g_length, .ref a_text, .ref a_now, .ref a_before, .int g_undoMany, .ref a_read, .int g_spot, .ref a_first, .ref a_second, .ref a_sums, .ref a_other, .int g_step, .int g_coverMany, .ref a_grid, .ref a_order, .int g_leastSums, .int g_leastPart])), (a_first, .inl (cI, 41, .inl g_first)), (a_second, .inl (cI, 41, .inl g_second)), (a_order, .inl (cI, 7, .inl g_order))]) ([.ref a_this, .int q1] : List Value).toArray s 0 0 A) (F0 m 18 ls []) := by
        intro x3
        obtain ⟨F18, eF18⟩ : ∃ F : (Int32 × Int32) → Prop, F = fun q => ∀ (H : Heap) (locs : List Loc) (ls : Array Slot), va_P D vwCl [(a_this, .inr (8, [.int g_length, .ref a_text, .ref a_now, .ref a_before, .int g_undoMany, .ref a_read, .int g_spot, .ref a_first, .ref a_second, .ref a_sums, .ref a_other, .int g_step, .int g_coverMany, .ref a_grid, .ref a_order, .int g_leastSums, .int g_leastPart])), (a_first, .inl (cI, 41, .inl g_first)), (a_second, .inl (cI, 41, .inl g_second)), (a_order, .inl (cI, 7, .inl g_order))] H → va_D A [(a_this, .inr (8, [.int g_length, .ref a_text, .ref a_now, .ref a_before, .int g_undoMany, .ref a_read, .int g_spot, .ref a_first, .ref a_second, .ref a_sums, .ref a_other, .int g_step, .int g_coverMany, .ref a_grid, .ref a_order, .int g_leastSums, .int g_leastPart])), (a_first, .inl (cI, 41, .inl g_first)), (a_second, .inl (cI, 41, .inl g_second)), (a_order, .inl (cI, 7, .inl g_order))] → va_S A s.heap H locs → lv_has ls 7 [(0, .ref a_this), (1, .int x1), (2, .int q.1), (3, .int x3), (4, .int q.2)] → W p l e rmX8_isPairing s m ([.ref a_this, .int q1] : List Value).toArray below meth c H locs 0 0 (MQ below (cQi D r0 A [(a_this, .inr (8, [.int g_length, .ref a_text, .ref a_now, .ref a_before, .int g_undoMany, .ref a_read, .int g_spot, .ref a_first, .ref a_second, .ref a_sums, .ref a_other, .int g_step, .int g_coverMany, .ref a_grid, .ref a_order, .int g_leastSums, .int g_leastPart])), (a_first, .inl (cI, 41, .inl g_first)), (a_second, .inl (cI, 41, .inl g_second)), (a_order, .inl (cI, 7, .inl g_order))]) ([.ref a_this, .int q1] : List Value).toArray s 0 0 A) (F0 m 18 ls []) := ⟨_, rfl⟩
        have key : ∀ (q : Int32 × Int32) (t : (Int32 × Int32) ⊕ (Int32)), run (sX8_isPairing_18 x1 x3 g_first g_second g_order) q = some t → (Sum.elim F4 (fun z => z = r0)) t → F18 q := by
          refine loop_rule (sX8_isPairing_18 x1 x3 g_first g_second g_order) F18 (Sum.elim F4 (fun z => z = r0)) ?_
          intro q t hf hF
          have hF : (Sum.elim F18 (Sum.elim F4 (fun z => z = r0))) t := hF
          have w152 : ∀ (x4 : Int32) (k0 : Int32) (t : (Int32 × Int32) ⊕ ((Int32 × Int32) ⊕ (Int32))) (H : Heap) (locs : List Loc) (ls : Array Slot), bX8_isPairing_152 x1 x3 x4 k0 g_first g_second g_order = some t → (Sum.elim F18 (Sum.elim F4 (fun z => z = r0))) t → va_P D vwCl [(a_this, .inr (8, [.int g_length, .ref a_text, .ref a_now, .ref a_before, .int g_undoMany, .ref a_read, .int g_spot, .ref a_first, .ref a_second, .ref a_sums, .ref a_other, .int g_step, .int g_coverMany, .ref a_grid, .ref a_order, .int g_leastSums, .int g_leastPart])), (a_first, .inl (cI, 41, .inl g_first)), (a_second, .inl (cI, 41, .inl g_second)), (a_order, .inl (cI, 7, .inl g_order))] H → va_D A [(a_this, .inr (8, [.int g_length, .ref a_text, .ref a_now, .ref a_before, .int g_undoMany, .ref a_read, .int g_spot, .ref a_first, .ref a_second, .ref a_sums, .ref a_other, .int g_step, .int g_coverMany, .ref a_grid, .ref a_order, .int g_leastSums, .int g_leastPart])), (a_first, .inl (cI, 41, .inl g_first)), (a_second, .inl (cI, 41, .inl g_second)), (a_order, .inl (cI, 7, .inl g_order))] → va_S A s.heap H locs → lv_has ls 7 [(0, .ref a_this), (1, .int x1), (3, .int x3), (4, .int x4)] → W p l e rmX8_isPairing s m ([.ref a_this, .int q1] : List Value).toArray below meth c H locs 0 0 (MQ below (cQi D r0 A [(a_this, .inr (8, [.int g_length, .ref a_text, .ref a_now, .ref a_before, .int g_undoMany, .ref a_read, .int g_spot, .ref a_first, .ref a_second, .ref a_sums, .ref a_other, .int g_step, .int g_coverMany, .ref a_grid, .ref a_order, .int g_leastSums, .int g_leastPart])), (a_first, .inl (cI, 41, .inl g_first)), (a_second, .inl (cI, 41, .inl g_second)), (a_order, .inl (cI, 7, .inl g_order))]) ([.ref a_this, .int q1] : List Value).toArray s 0 0 A) (F0 m 152 ls [.int k0]) := by
            intro x4 k0 t H locs ls hf hF hP hD hS hl
            unfold bX8_isPairing_152 at hf
            refine lv_istore_n (lv' := [(2, .int k0), (0, .ref a_this), (1, .int x1), (3, .int x3), (4, .int x4)]) hx hb dX8_isPairing_152 rfl hl (by decide) rfl (fun ls hl => ?_)
            obtain ⟨y2, ey2⟩ : ∃ z : Int32, z = x4 + (1 : Int32) := ⟨_, rfl⟩
            have hf := lt_some hf y2 ey2
            refine lv_iinc (v := y2) (lv' := [(4, .int y2), (2, .int k0), (0, .ref a_this), (1, .int x1), (3, .int x3)]) hx hb dX8_isPairing_153 hl (k := 4) rfl (by rw [ey2]; rfl) (by decide) rfl (fun ls hl => ?_)
            refine lv_goto (tgt := 18) hx hb dX8_isPairing_156 (by decide) ?_
            cases hf
            exact ((congrFun eF18 _).mp hF) H locs ls hP hD hS (lv_sub hl [2, 3, 1, 4, 0] rfl)
          have w138 : ∀ (x4 : Int32) (x5 : Int32) (k0 : Int32) (t : (Int32 × Int32) ⊕ ((Int32 × Int32) ⊕ (Int32))) (H : Heap) (locs : List Loc) (ls : Array Slot), bX8_isPairing_138 x1 x3 x4 x5 k0 g_first g_second g_order = some t → (Sum.elim F18 (Sum.elim F4 (fun z => z = r0))) t → va_P D vwCl [(a_this, .inr (8, [.int g_length, .ref a_text, .ref a_now, .ref a_before, .int g_undoMany, .ref a_read, .int g_spot, .ref a_first, .ref a_second, .ref a_sums, .ref a_other, .int g_step, .int g_coverMany, .ref a_grid, .ref a_order, .int g_leastSums, .int g_leastPart])), (a_first, .inl (cI, 41, .inl g_first)), (a_second, .inl (cI, 41, .inl g_second)), (a_order, .inl (cI, 7, .inl g_order))] H → va_D A [(a_this, .inr (8, [.int g_length, .ref a_text, .ref a_now, .ref a_before, .int g_undoMany, .ref a_read, .int g_spot, .ref a_first, .ref a_second, .ref a_sums, .ref a_other, .int g_step, .int g_coverMany, .ref a_grid, .ref a_order, .int g_leastSums, .int g_leastPart])), (a_first, .inl (cI, 41, .inl g_first)), (a_second, .inl (cI, 41, .inl g_second)), (a_order, .inl (cI, 7, .inl g_order))] → va_S A s.heap H locs → lv_has ls 7 [(0, .ref a_this), (1, .int x1), (3, .int x3), (4, .int x4), (5, .int x5)] → W p l e rmX8_isPairing s m ([.ref a_this, .int q1] : List Value).toArray below meth c H locs 0 0 (MQ below (cQi D r0 A [(a_this, .inr (8, [.int g_length, .ref a_text, .ref a_now, .ref a_before, .int g_undoMany, .ref a_read, .int g_spot, .ref a_first, .ref a_second, .ref a_sums, .ref a_other, .int g_step, .int g_coverMany, .ref a_grid, .ref a_order, .int g_leastSums, .int g_leastPart])), (a_first, .inl (cI, 41, .inl g_first)), (a_second, .inl (cI, 41, .inl g_second)), (a_order, .inl (cI, 7, .inl g_order))]) ([.ref a_this, .int q1] : List Value).toArray s 0 0 A) (F0 m 138 ls [.int k0]) := by
            intro x4 x5 k0 t H locs ls hf hF hP hD hS hl
            unfold bX8_isPairing_138 at hf
            refine lv_istore (lv' := [(6, .int k0), (0, .ref a_this), (1, .int x1), (3, .int x3), (4, .int x4), (5, .int x5)]) hx hb dX8_isPairing_138 hl (by decide) rfl (fun ls hl => ?_)
            refine lv_iload hx hb dX8_isPairing_140 (lv_at hl 5 rfl) ?_
            refine lv_iload hx hb dX8_isPairing_142 (lv_at hl 0 rfl) ?_
            refine lv_icmp_ne (tgt := 151) hx hb dX8_isPairing_144 (by decide) (fun c3 => ?_) (fun c3 => ?_)
            · have hf := br_neg c3 hf
              refine lv_iconst (v := 0) hx hb dX8_isPairing_151 (by decide) ?_
              exact w152 x4 (0 : Int32) _ H locs ls hf hF hP hD hS (lv_sub hl [1, 2, 3, 4] rfl)
            · have hf := br_pos c3 hf
              refine lv_iconst (v := 1) hx hb dX8_isPairing_147 (by decide) ?_
              refine lv_goto (tgt := 152) hx hb dX8_isPairing_148 (by decide) ?_
              exact w152 x4 (1 : Int32) _ H locs ls hf hF hP hD hS (lv_sub hl [1, 2, 3, 4] rfl)
          have w72 : ∀ (x4 : Int32) (k0 : Int32) (t : (Int32 × Int32) ⊕ ((Int32 × Int32) ⊕ (Int32))) (H : Heap) (locs : List Loc) (ls : Array Slot), bX8_isPairing_72 x1 x3 x4 k0 g_first g_second g_order = some t → (Sum.elim F18 (Sum.elim F4 (fun z => z = r0))) t → va_P D vwCl [(a_this, .inr (8, [.int g_length, .ref a_text, .ref a_now, .ref a_before, .int g_undoMany, .ref a_read, .int g_spot, .ref a_first, .ref a_second, .ref a_sums, .ref a_other, .int g_step, .int g_coverMany, .ref a_grid, .ref a_order, .int g_leastSums, .int g_leastPart])), (a_first, .inl (cI, 41, .inl g_first)), (a_second, .inl (cI, 41, .inl g_second)), (a_order, .inl (cI, 7, .inl g_order))] H → va_D A [(a_this, .inr (8, [.int g_length, .ref a_text, .ref a_now, .ref a_before, .int g_undoMany, .ref a_read, .int g_spot, .ref a_first, .ref a_second, .ref a_sums, .ref a_other, .int g_step, .int g_coverMany, .ref a_grid, .ref a_order, .int g_leastSums, .int g_leastPart])), (a_first, .inl (cI, 41, .inl g_first)), (a_second, .inl (cI, 41, .inl g_second)), (a_order, .inl (cI, 7, .inl g_order))] → va_S A s.heap H locs → lv_has ls 7 [(0, .ref a_this), (1, .int x1), (3, .int x3), (4, .int x4)] → W p l e rmX8_isPairing s m ([.ref a_this, .int q1] : List Value).toArray below meth c H locs 0 0 (MQ below (cQi D r0 A [(a_this, .inr (8, [.int g_length, .ref a_text, .ref a_now, .ref a_before, .int g_undoMany, .ref a_read, .int g_spot, .ref a_first, .ref a_second, .ref a_sums, .ref a_other, .int g_step, .int g_coverMany, .ref a_grid, .ref a_order, .int g_leastSums, .int g_leastPart])), (a_first, .inl (cI, 41, .inl g_first)), (a_second, .inl (cI, 41, .inl g_second)), (a_order, .inl (cI, 7, .inl g_order))]) ([.ref a_this, .int q1] : List Value).toArray s 0 0 A) (F0 m 72 ls [.int k0]) := by
            intro x4 k0 t H locs ls hf hF hP hD hS hl
            unfold bX8_isPairing_72 at hf
            refine lv_istore (lv' := [(5, .int k0), (0, .ref a_this), (1, .int x1), (3, .int x3), (4, .int x4)]) hx hb dX8_isPairing_72 hl (by decide) rfl (fun ls hl => ?_)
            refine lv_aload_n hx hb dX8_isPairing_74 rfl (lv_at hl 1 rfl) ?_
            refine va_get (D := D) (ci := 8) (v := .ref a_second) (C := RX8) (T := TX8) (N := 17) hx hb hts z1 hown hN.1 hP 0 rfl rfl 8 (by decide) z2 (fun _ h9 => h9) rfl dX8_isPairing_75 ?_
            refine lv_aload_n hx hb dX8_isPairing_78 rfl (lv_at hl 1 rfl) ?_
            refine va_get (D := D) (ci := 8) (v := .ref a_order) (C := RX8) (T := TX8) (N := 17) hx hb hts z1 hown hN.1 hP 0 rfl rfl 14 (by decide) z3 (fun _ h9 => h9) rfl dX8_isPairing_79 ?_
            refine lv_iload_n hx hb dX8_isPairing_82 rfl (lv_at hl 3 rfl) ?_
            refine lv_iload_n hx hb dX8_isPairing_83 rfl (lv_at hl 2 rfl) ?_
            obtain ⟨c4, hf⟩ := gd_some hf
            refine lv_idiv hx hb dX8_isPairing_84 c4 ?_
            refine lv_topi (fun y5 ey5 => ?_)
            have hf := lt_some hf y5 ey5
            obtain ⟨c6, hf⟩ := gd_some hf
            refine va_iald hx hb hN.1 hP 3 0 rfl rfl (ix_in c6) dX8_isPairing_85 ?_
            obtain ⟨c7, hf⟩ := gd_some hf
            refine va_iald hx hb hN.1 hP 2 0 rfl rfl (ix_in c7) dX8_isPairing_86 ?_
            refine lv_aload_n hx hb dX8_isPairing_87 rfl (lv_at hl 1 rfl) ?_
            refine va_get (D := D) (ci := 8) (v := .ref a_second) (C := RX8) (T := TX8) (N := 17) hx hb hts z1 hown hN.1 hP 0 rfl rfl 8 (by decide) z2 (fun _ h9 => h9) rfl dX8_isPairing_88 ?_
            refine lv_aload_n hx hb dX8_isPairing_91 rfl (lv_at hl 1 rfl) ?_
            refine va_get (D := D) (ci := 8) (v := .ref a_order) (C := RX8) (T := TX8) (N := 17) hx hb hts z1 hown hN.1 hP 0 rfl rfl 14 (by decide) z3 (fun _ h9 => h9) rfl dX8_isPairing_92 ?_
            refine lv_iload_n hx hb dX8_isPairing_95 rfl (lv_at hl 3 rfl) ?_
            refine lv_iload_n hx hb dX8_isPairing_96 rfl (lv_at hl 2 rfl) ?_
            obtain ⟨c8, hf⟩ := gd_some hf
            refine lv_irem hx hb dX8_isPairing_97 c8 ?_
            refine lv_topi (fun y9 ey9 => ?_)
            have hf := lt_some hf y9 ey9
            obtain ⟨c10, hf⟩ := gd_some hf
            refine va_iald hx hb hN.1 hP 3 0 rfl rfl (ix_in c10) dX8_isPairing_98 ?_
            obtain ⟨c11, hf⟩ := gd_some hf
            refine va_iald hx hb hN.1 hP 2 0 rfl rfl (ix_in c11) dX8_isPairing_99 ?_
            refine lv_iadd hx hb dX8_isPairing_100 ?_
            refine lv_aload_n hx hb dX8_isPairing_101 rfl (lv_at hl 1 rfl) ?_
            refine va_get (D := D) (ci := 8) (v := .ref a_second) (C := RX8) (T := TX8) (N := 17) hx hb hts z1 hown hN.1 hP 0 rfl rfl 8 (by decide) z2 (fun _ h9 => h9) rfl dX8_isPairing_102 ?_
            refine lv_aload_n hx hb dX8_isPairing_105 rfl (lv_at hl 1 rfl) ?_
            refine va_get (D := D) (ci := 8) (v := .ref a_order) (C := RX8) (T := TX8) (N := 17) hx hb hts z1 hown hN.1 hP 0 rfl rfl 14 (by decide) z3 (fun _ h9 => h9) rfl dX8_isPairing_106 ?_
            refine lv_iload hx hb dX8_isPairing_109 (lv_at hl 4 rfl) ?_
            refine lv_iload_n hx hb dX8_isPairing_111 rfl (lv_at hl 2 rfl) ?_
            obtain ⟨c12, hf⟩ := gd_some hf
            refine lv_idiv hx hb dX8_isPairing_112 c12 ?_
            refine lv_topi (fun y13 ey13 => ?_)
            have hf := lt_some hf y13 ey13
            obtain ⟨c14, hf⟩ := gd_some hf
            refine va_iald hx hb hN.1 hP 3 0 rfl rfl (ix_in c14) dX8_isPairing_113 ?_
            obtain ⟨c15, hf⟩ := gd_some hf
            refine va_iald hx hb hN.1 hP 2 0 rfl rfl (ix_in c15) dX8_isPairing_114 ?_
            refine lv_aload_n hx hb dX8_isPairing_115 rfl (lv_at hl 1 rfl) ?_
            refine va_get (D := D) (ci := 8) (v := .ref a_second) (C := RX8) (T := TX8) (N := 17) hx hb hts z1 hown hN.1 hP 0 rfl rfl 8 (by decide) z2 (fun _ h9 => h9) rfl dX8_isPairing_116 ?_
            refine lv_aload_n hx hb dX8_isPairing_119 rfl (lv_at hl 1 rfl) ?_
            refine va_get (D := D) (ci := 8) (v := .ref a_order) (C := RX8) (T := TX8) (N := 17) hx hb hts z1 hown hN.1 hP 0 rfl rfl 14 (by decide) z3 (fun _ h9 => h9) rfl dX8_isPairing_120 ?_
            refine lv_iload hx hb dX8_isPairing_123 (lv_at hl 4 rfl) ?_
            refine lv_iload_n hx hb dX8_isPairing_125 rfl (lv_at hl 2 rfl) ?_
            obtain ⟨c16, hf⟩ := gd_some hf
            refine lv_irem hx hb dX8_isPairing_126 c16 ?_
            refine lv_topi (fun y17 ey17 => ?_)
            have hf := lt_some hf y17 ey17
            obtain ⟨c18, hf⟩ := gd_some hf
            refine va_iald hx hb hN.1 hP 3 0 rfl rfl (ix_in c18) dX8_isPairing_127 ?_
            obtain ⟨c19, hf⟩ := gd_some hf
            refine va_iald hx hb hN.1 hP 2 0 rfl rfl (ix_in c19) dX8_isPairing_128 ?_
            refine lv_iadd hx hb dX8_isPairing_129 ?_
            refine lv_icmp_ne (tgt := 137) hx hb dX8_isPairing_130 (by decide) (fun c20 => ?_) (fun c20 => ?_)
            · have hf := br_neg c20 hf
              refine lv_iconst (v := 0) hx hb dX8_isPairing_137 (by decide) ?_
              exact w138 x4 k0 (0 : Int32) _ H locs ls hf hF hP hD hS (lv_sub hl [1, 2, 3, 4, 0] rfl)
            · have hf := br_pos c20 hf
              refine lv_iconst (v := 1) hx hb dX8_isPairing_133 (by decide) ?_
              refine lv_goto (tgt := 138) hx hb dX8_isPairing_134 (by decide) ?_
              exact w138 x4 k0 (1 : Int32) _ H locs ls hf hF hP hD hS (lv_sub hl [1, 2, 3, 4, 0] rfl)
          rw [eF18]
          obtain ⟨x2, x4⟩ := q
          intro H locs ls hP hD hS hl
          have hP : va_P D vwCl [(a_this, .inr (8, [.int g_length, .ref a_text, .ref a_now, .ref a_before, .int g_undoMany, .ref a_read, .int g_spot, .ref a_first, .ref a_second, .ref a_sums, .ref a_other, .int g_step, .int g_coverMany, .ref a_grid, .ref a_order, .int g_leastSums, .int g_leastPart])), (a_first, .inl (cI, 41, .inl g_first)), (a_second, .inl (cI, 41, .inl g_second)), (a_order, .inl (cI, 7, .inl g_order))] H := hP
          have hD : va_D A [(a_this, .inr (8, [.int g_length, .ref a_text, .ref a_now, .ref a_before, .int g_undoMany, .ref a_read, .int g_spot, .ref a_first, .ref a_second, .ref a_sums, .ref a_other, .int g_step, .int g_coverMany, .ref a_grid, .ref a_order, .int g_leastSums, .int g_leastPart])), (a_first, .inl (cI, 41, .inl g_first)), (a_second, .inl (cI, 41, .inl g_second)), (a_order, .inl (cI, 7, .inl g_order))] := hD
          have hl : lv_has ls 7 [(0, .ref a_this), (1, .int x1), (2, .int x2), (3, .int x3), (4, .int x4)] := hl
          have hf : bX8_isPairing_18 x1 x3 g_first g_second g_order x2 x4 = some t := hf
          unfold bX8_isPairing_18 at hf
          refine lv_iload hx hb dX8_isPairing_18 (lv_at hl 4 rfl) ?_
          refine lv_iload_n hx hb dX8_isPairing_20 rfl (lv_at hl 3 rfl) ?_
          refine lv_icmp_ge (tgt := 159) hx hb dX8_isPairing_21 (by decide) (fun c21 => ?_) (fun c21 => ?_)
          · have hf := br_pos c21 hf
            obtain ⟨t22, hf, hF⟩ := ml_fin hf hF
            exact w159 x2 x3 _ H locs ls hf hF hP hD hS (lv_sub hl [0, 1, 2, 3] rfl)
          · have hf := br_neg c21 hf
            refine lv_iload_n hx hb dX8_isPairing_24 rfl (lv_at hl 2 rfl) ?_
            refine lv_if_eq (tgt := 159) hx hb dX8_isPairing_25 (by decide) (fun c23 => ?_) (fun c23 => ?_)
            · have hf := br_pos c23 hf
              obtain ⟨t24, hf, hF⟩ := ml_fin hf hF
              exact w159 x2 x3 _ H locs ls hf hF hP hD hS (lv_sub hl [0, 1, 2, 3] rfl)
            · have hf := br_neg c23 hf
              refine lv_aload_n hx hb dX8_isPairing_28 rfl (lv_at hl 0 rfl) ?_
              refine va_get (D := D) (ci := 8) (v := .ref a_first) (C := RX8) (T := TX8) (N := 17) hx hb hts z1 hown hN.1 hP 0 rfl rfl 7 (by decide) z4 (fun _ h9 => h9) rfl dX8_isPairing_29 ?_
              refine lv_iload_n hx hb dX8_isPairing_32 rfl (lv_at hl 3 rfl) ?_
              refine lv_iload_n hx hb dX8_isPairing_33 rfl (lv_at hl 1 rfl) ?_
              obtain ⟨c25, hf⟩ := gd_some hf
              refine lv_idiv hx hb dX8_isPairing_34 c25 ?_
              refine lv_topi (fun y26 ey26 => ?_)
              have hf := lt_some hf y26 ey26
              obtain ⟨c27, hf⟩ := gd_some hf
              refine va_iald hx hb hN.1 hP 1 0 rfl rfl (ix_in c27) dX8_isPairing_35 ?_
              refine lv_aload_n hx hb dX8_isPairing_36 rfl (lv_at hl 0 rfl) ?_
              refine va_get (D := D) (ci := 8) (v := .ref a_first) (C := RX8) (T := TX8) (N := 17) hx hb hts z1 hown hN.1 hP 0 rfl rfl 7 (by decide) z4 (fun _ h9 => h9) rfl dX8_isPairing_37 ?_
              refine lv_iload_n hx hb dX8_isPairing_40 rfl (lv_at hl 3 rfl) ?_
              refine lv_iload_n hx hb dX8_isPairing_41 rfl (lv_at hl 1 rfl) ?_
              obtain ⟨c28, hf⟩ := gd_some hf
              refine lv_irem hx hb dX8_isPairing_42 c28 ?_
              refine lv_topi (fun y29 ey29 => ?_)
              have hf := lt_some hf y29 ey29
              obtain ⟨c30, hf⟩ := gd_some hf
              refine va_iald hx hb hN.1 hP 1 0 rfl rfl (ix_in c30) dX8_isPairing_43 ?_
              refine lv_iadd hx hb dX8_isPairing_44 ?_
              refine lv_aload_n hx hb dX8_isPairing_45 rfl (lv_at hl 0 rfl) ?_
              refine va_get (D := D) (ci := 8) (v := .ref a_first) (C := RX8) (T := TX8) (N := 17) hx hb hts z1 hown hN.1 hP 0 rfl rfl 7 (by decide) z4 (fun _ h9 => h9) rfl dX8_isPairing_46 ?_
              refine lv_iload hx hb dX8_isPairing_49 (lv_at hl 4 rfl) ?_
              refine lv_iload_n hx hb dX8_isPairing_51 rfl (lv_at hl 1 rfl) ?_
              obtain ⟨c31, hf⟩ := gd_some hf
              refine lv_idiv hx hb dX8_isPairing_52 c31 ?_
              refine lv_topi (fun y32 ey32 => ?_)
              have hf := lt_some hf y32 ey32
              obtain ⟨c33, hf⟩ := gd_some hf
              refine va_iald hx hb hN.1 hP 1 0 rfl rfl (ix_in c33) dX8_isPairing_53 ?_
              refine lv_aload_n hx hb dX8_isPairing_54 rfl (lv_at hl 0 rfl) ?_
              refine va_get (D := D) (ci := 8) (v := .ref a_first) (C := RX8) (T := TX8) (N := 17) hx hb hts z1 hown hN.1 hP 0 rfl rfl 7 (by decide) z4 (fun _ h9 => h9) rfl dX8_isPairing_55 ?_
              refine lv_iload hx hb dX8_isPairing_58 (lv_at hl 4 rfl) ?_
              refine lv_iload_n hx hb dX8_isPairing_60 rfl (lv_at hl 1 rfl) ?_
              obtain ⟨c34, hf⟩ := gd_some hf
              refine lv_irem hx hb dX8_isPairing_61 c34 ?_
              refine lv_topi (fun y35 ey35 => ?_)
              have hf := lt_some hf y35 ey35
              obtain ⟨c36, hf⟩ := gd_some hf
              refine va_iald hx hb hN.1 hP 1 0 rfl rfl (ix_in c36) dX8_isPairing_62 ?_
              refine lv_iadd hx hb dX8_isPairing_63 ?_
              refine lv_icmp_ne (tgt := 71) hx hb dX8_isPairing_64 (by decide) (fun c37 => ?_) (fun c37 => ?_)
              · have hf := br_neg c37 hf
                refine lv_iconst (v := 0) hx hb dX8_isPairing_71 (by decide) ?_
                exact w72 x4 (0 : Int32) _ H locs ls hf hF hP hD hS (lv_sub hl [0, 1, 3, 4] rfl)
              · have hf := br_pos c37 hf
                refine lv_iconst (v := 1) hx hb dX8_isPairing_67 (by decide) ?_
                refine lv_goto (tgt := 72) hx hb dX8_isPairing_68 (by decide) ?_
                exact w72 x4 (1 : Int32) _ H locs ls hf hF hP hD hS (lv_sub hl [0, 1, 3, 4] rfl)
        intro x2 x4 t H locs ls hf hF hP hD hS hl
        exact ((congrFun eF18 _).mp (key ((x2, x4)) t hf hF)) H locs ls hP hD hS hl
      rw [eF4]
      obtain ⟨x2, x3⟩ := q
      intro H locs ls hP hD hS hl
      have hP : va_P D vwCl [(a_this, .inr (8, [.int g_length, .ref a_text, .ref a_now, .ref a_before, .int g_undoMany, .ref a_read, .int g_spot, .ref a_first, .ref a_second, .ref a_sums, .ref a_other, .int g_step, .int g_coverMany, .ref a_grid, .ref a_order, .int g_leastSums, .int g_leastPart])), (a_first, .inl (cI, 41, .inl g_first)), (a_second, .inl (cI, 41, .inl g_second)), (a_order, .inl (cI, 7, .inl g_order))] H := hP
      have hD : va_D A [(a_this, .inr (8, [.int g_length, .ref a_text, .ref a_now, .ref a_before, .int g_undoMany, .ref a_read, .int g_spot, .ref a_first, .ref a_second, .ref a_sums, .ref a_other, .int g_step, .int g_coverMany, .ref a_grid, .ref a_order, .int g_leastSums, .int g_leastPart])), (a_first, .inl (cI, 41, .inl g_first)), (a_second, .inl (cI, 41, .inl g_second)), (a_order, .inl (cI, 7, .inl g_order))] := hD
      have hl : lv_has ls 7 [(0, .ref a_this), (1, .int x1), (2, .int x2), (3, .int x3)] := hl
      have hf : bX8_isPairing_4 x1 g_first g_second g_order x2 x3 = some t := hf
      unfold bX8_isPairing_4 at hf
      refine lv_iload_n hx hb dX8_isPairing_4 rfl (lv_at hl 3 rfl) ?_
      refine lv_iload_n hx hb dX8_isPairing_5 rfl (lv_at hl 1 rfl) ?_
      refine lv_iload_n hx hb dX8_isPairing_6 rfl (lv_at hl 1 rfl) ?_
      refine lv_imul hx hb dX8_isPairing_7 ?_
      refine lv_icmp_ge (tgt := 165) hx hb dX8_isPairing_8 (by decide) (fun c38 => ?_) (fun c38 => ?_)
      · have hf := br_pos c38 hf
        refine lv_iload_n hx hb dX8_isPairing_165 rfl (lv_at hl 2 rfl) ?_
        obtain ⟨c39, hf⟩ := gd_some hf
        cases hf
        have hE : x2 = r0 := hF
        subst hE
        exact rtZ hx hb hr hlk c39 hP hD hS dX8_isPairing_166
      · have hf := br_neg c38 hf
        refine lv_iload_n hx hb dX8_isPairing_11 rfl (lv_at hl 2 rfl) ?_
        refine lv_if_eq (tgt := 165) hx hb dX8_isPairing_12 (by decide) (fun c40 => ?_) (fun c40 => ?_)
        · have hf := br_pos c40 hf
          refine lv_iload_n hx hb dX8_isPairing_165 rfl (lv_at hl 2 rfl) ?_
          obtain ⟨c41, hf⟩ := gd_some hf
          cases hf
          have hE : x2 = r0 := hF
          subst hE
          exact rtZ hx hb hr hlk c41 hP hD hS dX8_isPairing_166
        · have hf := br_neg c40 hf
          refine lv_iconst (v := 0) hx hb dX8_isPairing_15 (by decide) ?_
          refine lv_istore (lv' := [(4, .int (0 : Int32)), (0, .ref a_this), (1, .int x1), (2, .int x2), (3, .int x3)]) hx hb dX8_isPairing_16 hl (by decide) rfl (fun ls hl => ?_)
          exact w18 x3 x2 (0 : Int32) _ H locs ls hf hF hP hD hS (lv_sub hl [1, 2, 3, 4, 0] rfl)
    intro x2 x3 t H locs ls hf hF hP hD hS hl
    exact ((congrFun eF4 _).mp (key ((x2, x3)) t hf hF)) H locs ls hP hD hS hl
  unfold fX8_isPairing at hf
  obtain ⟨H, eH⟩ : ∃ z, z = s.heap := ⟨_, rfl⟩
  obtain ⟨locs, eL⟩ : ∃ z : List Loc, z = [] := ⟨_, rfl⟩
  have hP : va_P D vwCl [(a_this, .inr (8, [.int g_length, .ref a_text, .ref a_now, .ref a_before, .int g_undoMany, .ref a_read, .int g_spot, .ref a_first, .ref a_second, .ref a_sums, .ref a_other, .int g_step, .int g_coverMany, .ref a_grid, .ref a_order, .int g_leastSums, .int g_leastPart])), (a_first, .inl (cI, 41, .inl g_first)), (a_second, .inl (cI, 41, .inl g_second)), (a_order, .inl (cI, 7, .inl g_order))] H := by rw [eH]; exact hP
  have hS : va_S A s.heap H locs := by rw [eH, eL]; exact hS
  suffices hG : W p l e rmX8_isPairing s m ([.ref a_this, .int q1] : List Value).toArray below meth c H locs 0 0 (MQ below (cQi D r0 A [(a_this, .inr (8, [.int g_length, .ref a_text, .ref a_now, .ref a_before, .int g_undoMany, .ref a_read, .int g_spot, .ref a_first, .ref a_second, .ref a_sums, .ref a_other, .int g_step, .int g_coverMany, .ref a_grid, .ref a_order, .int g_leastSums, .int g_leastPart])), (a_first, .inl (cI, 41, .inl g_first)), (a_second, .inl (cI, 41, .inl g_second)), (a_order, .inl (cI, 7, .inl g_order))]) ([.ref a_this, .int q1] : List Value).toArray s 0 0 A) (F0 m 0 ls []) by rw [eH, eL] at hG; exact hG
  refine lv_iconst (v := 1) hx hb dX8_isPairing_0 (by decide) ?_
  refine lv_istore_n (lv' := [(2, .int (1 : Int32)), (0, .ref a_this), (1, .int q1)]) hx hb dX8_isPairing_1 rfl hl (by decide) rfl (fun ls hl => ?_)
  refine lv_iconst (v := 0) hx hb dX8_isPairing_2 (by decide) ?_
  refine lv_istore_n (lv' := [(3, .int (0 : Int32)), (2, .int (1 : Int32)), (0, .ref a_this), (1, .int q1)]) hx hb dX8_isPairing_3 rfl hl (by decide) rfl (fun ls hl => ?_)
  exact w4 q1 g_first g_second g_order (1 : Int32) (0 : Int32) r0 H locs ls hf rfl hP hD hS (lv_sub hl [2, 3, 1, 0] rfl)
abbrev rmX8_nextOrder : Room := { frames := 0, cells := 0, slots := 0, locals := 0 }
noncomputable def bX8_nextOrder_100 (x5 : Int32) (x6 : Int32) (g_order : Nat → Int32) : Option ((Int32 × Int32 × (Nat → Int32)) ⊕ (Int32 × (Nat → Int32))) := br (x6 ≤ x5) (gd ((1 : Int32) = 0 ∨ (1 : Int32) = 1) (some (Sum.inr (((1 : Int32), g_order))))) (gd (¬ x5 < 0 ∧ x5.toNatClampNeg < 7) (lt_ (g_order x5.toNatClampNeg) (fun y4 => gd (¬ x6 < 0 ∧ x6.toNatClampNeg < 7) (lt_ (g_order x6.toNatClampNeg) (fun y6 => gd (¬ x5 < 0 ∧ x5.toNatClampNeg < 7) (lt_ (upd g_order x5.toNatClampNeg y6) (fun y8 => gd (¬ x6 < 0 ∧ x6.toNatClampNeg < 7) (lt_ (upd y8 x6.toNatClampNeg y4) (fun y10 => lt_ (x5 + (1 : Int32)) (fun y11 => lt_ (x6 + (-1 : Int32)) (fun y12 => some (Sum.inl ((y11, y12, y10))))))))))))))
noncomputable def sX8_nextOrder_100 : (Int32 × Int32 × (Nat → Int32)) → Option ((Int32 × Int32 × (Nat → Int32)) ⊕ (Int32 × (Nat → Int32))) := fun q => bX8_nextOrder_100 q.1 q.2.1 q.2.2
noncomputable def bX8_nextOrder_41 (x1 : Int32) (x2 : Int32) (g_order : Nat → Int32) (x3 : Int32) : Option ((Int32) ⊕ (Int32 × (Nat → Int32))) := gd (¬ x3 < 0 ∧ x3.toNatClampNeg < 7) (gd (¬ x2 < 0 ∧ x2.toNatClampNeg < 7) (br ((g_order x2.toNatClampNeg) ≤ (g_order x3.toNatClampNeg)) (gd (¬ x2 < 0 ∧ x2.toNatClampNeg < 7) (lt_ (g_order x2.toNatClampNeg) (fun y17 => gd (¬ x3 < 0 ∧ x3.toNatClampNeg < 7) (lt_ (g_order x3.toNatClampNeg) (fun y19 => gd (¬ x2 < 0 ∧ x2.toNatClampNeg < 7) (lt_ (upd g_order x2.toNatClampNeg y19) (fun y21 => gd (¬ x3 < 0 ∧ x3.toNatClampNeg < 7) (lt_ (upd y21 x3.toNatClampNeg y17) (fun y23 => lt_ (x2 + (1 : Int32)) (fun y24 => lt_ (x1 - (1 : Int32)) (fun y25 => ml (run (sX8_nextOrder_100) ((y24, y25, y23)))))))))))))) (lt_ (x3 + (-1 : Int32)) (fun y27 => some (Sum.inl y27)))))
noncomputable def sX8_nextOrder_41 (x1 : Int32) (x2 : Int32) (g_order : Nat → Int32) : (Int32) → Option ((Int32) ⊕ (Int32 × (Nat → Int32))) := fun q => bX8_nextOrder_41 x1 x2 g_order q
noncomputable def bX8_nextOrder_31 (x1 : Int32) (x2 : Int32) (g_order : Nat → Int32) : Option (Int32 × (Nat → Int32)) := br (0 ≤ x2) (lt_ (x1 - (1 : Int32)) (fun y29 => run (sX8_nextOrder_41 x1 x2 g_order) y29)) (gd ((0 : Int32) = 0 ∨ (0 : Int32) = 1) (some (((0 : Int32), g_order))))
noncomputable def bX8_nextOrder_4 (x1 : Int32) (g_order : Nat → Int32) (x2 : Int32) : Option ((Int32) ⊕ (Int32 × (Nat → Int32))) := br (x2 < 0) (ml (bX8_nextOrder_31 x1 x2 g_order)) (gd (¬ x2 < 0 ∧ x2.toNatClampNeg < 7) (gd (¬ (x2 + (1 : Int32)) < 0 ∧ (x2 + (1 : Int32)).toNatClampNeg < 7) (br ((g_order x2.toNatClampNeg) ≤ (g_order (x2 + (1 : Int32)).toNatClampNeg)) (ml (bX8_nextOrder_31 x1 x2 g_order)) (lt_ (x2 + (-1 : Int32)) (fun y37 => some (Sum.inl y37))))))
noncomputable def sX8_nextOrder_4 (x1 : Int32) (g_order : Nat → Int32) : (Int32) → Option ((Int32) ⊕ (Int32 × (Nat → Int32))) := fun q => bX8_nextOrder_4 x1 g_order q
noncomputable def fX8_nextOrder (q1 : Int32) (g_order : Nat → Int32) : Option (Int32 × (Nat → Int32)) := lt_ (q1 - (2 : Int32)) (fun y38 => run (sX8_nextOrder_4 q1 g_order) y38)
set_option maxHeartbeats 4000000 in
set_option maxRecDepth 100000 in
theorem cX8_nextOrder_ct (l : Launch) (D : va_G) (cI cL cC cZ : ClassId) (a_this a_text a_now a_before a_read a_first a_second a_sums a_other a_grid a_order : Nat) (g_length : Int32) (g_undoMany : Int32) (g_spot : Int32) (g_step : Int32) (g_coverMany : Int32) (g_leastSums : Int32) (g_leastPart : Int32) (g_order : Nat → Int32) (q1 : Int32) (r0 : Int32) (v_order : Nat → Int32) (hf : fX8_nextOrder q1 g_order = some ((r0, v_order))) : CtI l yX8_nextOrder wsX8_nextOrder rmX8_nextOrder D (tyz cI cL cC cZ) [.ref a_this, .int q1] [(a_this, .inr (8, [.int g_length, .ref a_text, .ref a_now, .ref a_before, .int g_undoMany, .ref a_read, .int g_spot, .ref a_first, .ref a_second, .ref a_sums, .ref a_other, .int g_step, .int g_coverMany, .ref a_grid, .ref a_order, .int g_leastSums, .int g_leastPart])), (a_order, .inl (cI, 7, .inl g_order))] [(a_this, .inr (8, [.int g_length, .ref a_text, .ref a_now, .ref a_before, .int g_undoMany, .ref a_read, .int g_spot, .ref a_first, .ref a_second, .ref a_sums, .ref a_other, .int g_step, .int g_coverMany, .ref a_grid, .ref a_order, .int g_leastSums, .int g_leastPart])), (a_order, .inl (cI, 7, .inl v_order))] r0 := by
  refine CtI.make (cc := cX8_nextOrder) (maxL := 7) (ty := .boolean) (by decide) rfl (Nat.le_of_ble_eq_true rfl) ?_
  intro p e s m below meth c A ls C0 hN hA hP hD hl
  obtain ⟨hx, hb, hr, hml, hown, hts, hlk⟩ := id C0
  have hown : s.vm.findClass RX8 = some m.cls := hown
  have hS : va_S A s.heap s.heap [] := va_S.rf
  have hP : va_P D vwCl [(a_this, .inr (8, [.int g_length, .ref a_text, .ref a_now, .ref a_before, .int g_undoMany, .ref a_read, .int g_spot, .ref a_first, .ref a_second, .ref a_sums, .ref a_other, .int g_step, .int g_coverMany, .ref a_grid, .ref a_order, .int g_leastSums, .int g_leastPart])), (a_order, .inl (cI, 7, .inl g_order))] s.heap := hP
  have hD : va_D A [(a_this, .inr (8, [.int g_length, .ref a_text, .ref a_now, .ref a_before, .int g_undoMany, .ref a_read, .int g_spot, .ref a_first, .ref a_second, .ref a_sums, .ref a_other, .int g_step, .int g_coverMany, .ref a_grid, .ref a_order, .int g_leastSums, .int g_leastPart])), (a_order, .inl (cI, 7, .inl g_order))] := hD
  have hl : lv_has ls 7 [(0, .ref a_this), (1, .int q1)] := hl
  have z1 : ∀ w ∈ u_ws RX8 TX8 17, w ∈ wsX8_nextOrder := by decide +kernel
  have z2 := hts (.fieldLink RX8 38 "LittleSumsModel" "order" "[I") (by decide +kernel)
  have w100 : ∀ (x5 : Int32) (x6 : Int32) (g_order : Nat → Int32) (t : Int32 × (Nat → Int32)) (H : Heap) (locs : List Loc) (ls : Array Slot), run (sX8_nextOrder_100) ((x5, x6, g_order)) = some t → (fun z => z = (r0, v_order)) t → va_P D vwCl [(a_this, .inr (8, [.int g_length, .ref a_text, .ref a_now, .ref a_before, .int g_undoMany, .ref a_read, .int g_spot, .ref a_first, .ref a_second, .ref a_sums, .ref a_other, .int g_step, .int g_coverMany, .ref a_grid, .ref a_order, .int g_leastSums, .int g_leastPart])), (a_order, .inl (cI, 7, .inl g_order))] H → va_D A [(a_this, .inr (8, [.int g_length, .ref a_text, .ref a_now, .ref a_before, .int g_undoMany, .ref a_read, .int g_spot, .ref a_first, .ref a_second, .ref a_sums, .ref a_other, .int g_step, .int g_coverMany, .ref a_grid, .ref a_order, .int g_leastSums, .int g_leastPart])), (a_order, .inl (cI, 7, .inl g_order))] → va_S A s.heap H locs → lv_has ls 7 [(0, .ref a_this), (5, .int x5), (6, .int x6)] → W p l e rmX8_nextOrder s m ([.ref a_this, .int q1] : List Value).toArray below meth c H locs 0 0 (MQ below (cQi D r0 A [(a_this, .inr (8, [.int g_length, .ref a_text, .ref a_now, .ref a_before, .int g_undoMany, .ref a_read, .int g_spot, .ref a_first, .ref a_second, .ref a_sums, .ref a_other, .int g_step, .int g_coverMany, .ref a_grid, .ref a_order, .int g_leastSums, .int g_leastPart])), (a_order, .inl (cI, 7, .inl v_order))]) ([.ref a_this, .int q1] : List Value).toArray s 0 0 A) (F0 m 100 ls []) := by
    obtain ⟨F100, eF100⟩ : ∃ F : (Int32 × Int32 × (Nat → Int32)) → Prop, F = fun q => ∀ (H : Heap) (locs : List Loc) (ls : Array Slot), va_P D vwCl [(a_this, .inr (8, [.int g_length, .ref a_text, .ref a_now, .ref a_before, .int g_undoMany, .ref a_read, .int g_spot, .ref a_first, .ref a_second, .ref a_sums, .ref a_other, .int g_step, .int g_coverMany, .ref a_grid, .ref a_order, .int g_leastSums, .int g_leastPart])), (a_order, .inl (cI, 7, .inl q.2.2))] H → va_D A [(a_this, .inr (8, [.int g_length, .ref a_text, .ref a_now, .ref a_before, .int g_undoMany, .ref a_read, .int g_spot, .ref a_first, .ref a_second, .ref a_sums, .ref a_other, .int g_step, .int g_coverMany, .ref a_grid, .ref a_order, .int g_leastSums, .int g_leastPart])), (a_order, .inl (cI, 7, .inl q.2.2))] → va_S A s.heap H locs → lv_has ls 7 [(0, .ref a_this), (5, .int q.1), (6, .int q.2.1)] → W p l e rmX8_nextOrder s m ([.ref a_this, .int q1] : List Value).toArray below meth c H locs 0 0 (MQ below (cQi D r0 A [(a_this, .inr (8, [.int g_length, .ref a_text, .ref a_now, .ref a_before, .int g_undoMany, .ref a_read, .int g_spot, .ref a_first, .ref a_second, .ref a_sums, .ref a_other, .int g_step, .int g_coverMany, .ref a_grid, .ref a_order, .int g_leastSums, .int g_leastPart])), (a_order, .inl (cI, 7, .inl v_order))]) ([.ref a_this, .int q1] : List Value).toArray s 0 0 A) (F0 m 100 ls []) := ⟨_, rfl⟩
    have key : ∀ (q : Int32 × Int32 × (Nat → Int32)) (t : Int32 × (Nat → Int32)), run (sX8_nextOrder_100) q = some t → (fun z => z = (r0, v_order)) t → F100 q := by
      refine loop_rule (sX8_nextOrder_100) F100 (fun z => z = (r0, v_order)) ?_
      intro q t hf hF
      have hF : (Sum.elim F100 (fun z => z = (r0, v_order))) t := hF
      rw [eF100]
      obtain ⟨x5, x6, g_order⟩ := q
      intro H locs ls hP hD hS hl
      have hP : va_P D vwCl [(a_this, .inr (8, [.int g_length, .ref a_text, .ref a_now, .ref a_before, .int g_undoMany, .ref a_read, .int g_spot, .ref a_first, .ref a_second, .ref a_sums, .ref a_other, .int g_step, .int g_coverMany, .ref a_grid, .ref a_order, .int g_leastSums, .int g_leastPart])), (a_order, .inl (cI, 7, .inl g_order))] H := hP
      have hD : va_D A [(a_this, .inr (8, [.int g_length, .ref a_text, .ref a_now, .ref a_before, .int g_undoMany, .ref a_read, .int g_spot, .ref a_first, .ref a_second, .ref a_sums, .ref a_other, .int g_step, .int g_coverMany, .ref a_grid, .ref a_order, .int g_leastSums, .int g_leastPart])), (a_order, .inl (cI, 7, .inl g_order))] := hD
      have hl : lv_has ls 7 [(0, .ref a_this), (5, .int x5), (6, .int x6)] := hl
      have hf : bX8_nextOrder_100 x5 x6 g_order = some t := hf
      unfold bX8_nextOrder_100 at hf
      refine lv_iload hx hb dX8_nextOrder_100 (lv_at hl 1 rfl) ?_
      refine lv_iload hx hb dX8_nextOrder_102 (lv_at hl 2 rfl) ?_
      refine lv_icmp_ge (tgt := 148) hx hb dX8_nextOrder_104 (by decide) (fun c1 => ?_) (fun c1 => ?_)
      · have hf := br_pos c1 hf
        refine lv_iconst (v := 1) hx hb dX8_nextOrder_148 (by decide) ?_
        obtain ⟨c2, hf⟩ := gd_some hf
        cases hf
        have hE : ((1 : Int32), g_order) = (r0, v_order) := hF
        simp only [Prod.mk.injEq] at hE
        obtain ⟨rfl, rfl⟩ := hE
        exact rtZ hx hb hr hlk c2 hP hD hS dX8_nextOrder_149
      · have hf := br_neg c1 hf
        refine lv_aload_n hx hb dX8_nextOrder_107 rfl (lv_at hl 0 rfl) ?_
        refine va_get (D := D) (ci := 8) (v := .ref a_order) (C := RX8) (T := TX8) (N := 17) hx hb hts z1 hown hN.1 hP 0 rfl rfl 14 (by decide) z2 (fun _ h9 => h9) rfl dX8_nextOrder_108 ?_
        refine lv_iload hx hb dX8_nextOrder_111 (lv_at hl 1 rfl) ?_
        obtain ⟨c3, hf⟩ := gd_some hf
        refine va_iald hx hb hN.1 hP 1 0 rfl rfl (ix_in c3) dX8_nextOrder_113 ?_
        refine lv_topi (fun y4 ey4 => ?_)
        have hf := lt_some hf y4 ey4
        refine lv_istore (lv' := [(4, .int y4), (0, .ref a_this), (5, .int x5), (6, .int x6)]) hx hb dX8_nextOrder_114 hl (by decide) rfl (fun ls hl => ?_)
        refine lv_aload_n hx hb dX8_nextOrder_116 rfl (lv_at hl 1 rfl) ?_
        refine va_get (D := D) (ci := 8) (v := .ref a_order) (C := RX8) (T := TX8) (N := 17) hx hb hts z1 hown hN.1 hP 0 rfl rfl 14 (by decide) z2 (fun _ h9 => h9) rfl dX8_nextOrder_117 ?_
        refine lv_iload hx hb dX8_nextOrder_120 (lv_at hl 2 rfl) ?_
        refine lv_aload_n hx hb dX8_nextOrder_122 rfl (lv_at hl 1 rfl) ?_
        refine va_get (D := D) (ci := 8) (v := .ref a_order) (C := RX8) (T := TX8) (N := 17) hx hb hts z1 hown hN.1 hP 0 rfl rfl 14 (by decide) z2 (fun _ h9 => h9) rfl dX8_nextOrder_123 ?_
        refine lv_iload hx hb dX8_nextOrder_126 (lv_at hl 3 rfl) ?_
        obtain ⟨c5, hf⟩ := gd_some hf
        refine va_iald hx hb hN.1 hP 1 0 rfl rfl (ix_in c5) dX8_nextOrder_128 ?_
        refine lv_topi (fun y6 ey6 => ?_)
        have hf := lt_some hf y6 ey6
        obtain ⟨c7, hf⟩ := gd_some hf
        refine va_iast hx hb hN.1 hP hD hS 1 0 rfl rfl (ix_in c7) dX8_nextOrder_129 (fun H locs hP hD hS => ?_)
        obtain ⟨y8, ey8⟩ : ∃ z, z = upd g_order x5.toNatClampNeg y6 := ⟨_, rfl⟩
        have hf := lt_some hf y8 ey8
        have hP : va_P D vwCl [(a_this, .inr (8, [.int g_length, .ref a_text, .ref a_now, .ref a_before, .int g_undoMany, .ref a_read, .int g_spot, .ref a_first, .ref a_second, .ref a_sums, .ref a_other, .int g_step, .int g_coverMany, .ref a_grid, .ref a_order, .int g_leastSums, .int g_leastPart])), (a_order, .inl (cI, 7, .inl y8))] H := by rw [ey8]; exact hP
        have hD : va_D A [(a_this, .inr (8, [.int g_length, .ref a_text, .ref a_now, .ref a_before, .int g_undoMany, .ref a_read, .int g_spot, .ref a_first, .ref a_second, .ref a_sums, .ref a_other, .int g_step, .int g_coverMany, .ref a_grid, .ref a_order, .int g_leastSums, .int g_leastPart])), (a_order, .inl (cI, 7, .inl y8))] := by rw [ey8]; exact hD
        refine lv_aload_n hx hb dX8_nextOrder_130 rfl (lv_at hl 1 rfl) ?_
        refine va_get (D := D) (ci := 8) (v := .ref a_order) (C := RX8) (T := TX8) (N := 17) hx hb hts z1 hown hN.1 hP 0 rfl rfl 14 (by decide) z2 (fun _ h9 => h9) rfl dX8_nextOrder_131 ?_
        refine lv_iload hx hb dX8_nextOrder_134 (lv_at hl 3 rfl) ?_
        refine lv_iload hx hb dX8_nextOrder_136 (lv_at hl 0 rfl) ?_
        obtain ⟨c9, hf⟩ := gd_some hf
        refine va_iast hx hb hN.1 hP hD hS 1 0 rfl rfl (ix_in c9) dX8_nextOrder_138 (fun H locs hP hD hS => ?_)
        obtain ⟨y10, ey10⟩ : ∃ z, z = upd y8 x6.toNatClampNeg y4 := ⟨_, rfl⟩
        have hf := lt_some hf y10 ey10
        have hP : va_P D vwCl [(a_this, .inr (8, [.int g_length, .ref a_text, .ref a_now, .ref a_before, .int g_undoMany, .ref a_read, .int g_spot, .ref a_first, .ref a_second, .ref a_sums, .ref a_other, .int g_step, .int g_coverMany, .ref a_grid, .ref a_order, .int g_leastSums, .int g_leastPart])), (a_order, .inl (cI, 7, .inl y10))] H := by rw [ey10]; exact hP
        have hD : va_D A [(a_this, .inr (8, [.int g_length, .ref a_text, .ref a_now, .ref a_before, .int g_undoMany, .ref a_read, .int g_spot, .ref a_first, .ref a_second, .ref a_sums, .ref a_other, .int g_step, .int g_coverMany, .ref a_grid, .ref a_order, .int g_leastSums, .int g_leastPart])), (a_order, .inl (cI, 7, .inl y10))] := by rw [ey10]; exact hD
        obtain ⟨y11, ey11⟩ : ∃ z : Int32, z = x5 + (1 : Int32) := ⟨_, rfl⟩
        have hf := lt_some hf y11 ey11
        refine lv_iinc (v := y11) (lv' := [(5, .int y11), (4, .int y4), (0, .ref a_this), (6, .int x6)]) hx hb dX8_nextOrder_139 hl (k := 2) rfl (by rw [ey11]; rfl) (by decide) rfl (fun ls hl => ?_)
        obtain ⟨y12, ey12⟩ : ∃ z : Int32, z = x6 + (-1 : Int32) := ⟨_, rfl⟩
        have hf := lt_some hf y12 ey12
        refine lv_iinc (v := y12) (lv' := [(6, .int y12), (5, .int y11), (4, .int y4), (0, .ref a_this)]) hx hb dX8_nextOrder_142 hl (k := 3) rfl (by rw [ey12]; rfl) (by decide) rfl (fun ls hl => ?_)
        refine lv_goto (tgt := 100) hx hb dX8_nextOrder_145 (by decide) ?_
        cases hf
        exact ((congrFun eF100 _).mp hF) H locs ls hP hD hS (lv_sub hl [3, 1, 0] rfl)
    intro x5 x6 g_order t H locs ls hf hF hP hD hS hl
    exact ((congrFun eF100 _).mp (key ((x5, x6, g_order)) t hf hF)) H locs ls hP hD hS hl
  have w41 : ∀ (x1 : Int32) (x2 : Int32) (g_order : Nat → Int32) (x3 : Int32) (t : Int32 × (Nat → Int32)) (H : Heap) (locs : List Loc) (ls : Array Slot), run (sX8_nextOrder_41 x1 x2 g_order) x3 = some t → (fun z => z = (r0, v_order)) t → va_P D vwCl [(a_this, .inr (8, [.int g_length, .ref a_text, .ref a_now, .ref a_before, .int g_undoMany, .ref a_read, .int g_spot, .ref a_first, .ref a_second, .ref a_sums, .ref a_other, .int g_step, .int g_coverMany, .ref a_grid, .ref a_order, .int g_leastSums, .int g_leastPart])), (a_order, .inl (cI, 7, .inl g_order))] H → va_D A [(a_this, .inr (8, [.int g_length, .ref a_text, .ref a_now, .ref a_before, .int g_undoMany, .ref a_read, .int g_spot, .ref a_first, .ref a_second, .ref a_sums, .ref a_other, .int g_step, .int g_coverMany, .ref a_grid, .ref a_order, .int g_leastSums, .int g_leastPart])), (a_order, .inl (cI, 7, .inl g_order))] → va_S A s.heap H locs → lv_has ls 7 [(0, .ref a_this), (1, .int x1), (2, .int x2), (3, .int x3)] → W p l e rmX8_nextOrder s m ([.ref a_this, .int q1] : List Value).toArray below meth c H locs 0 0 (MQ below (cQi D r0 A [(a_this, .inr (8, [.int g_length, .ref a_text, .ref a_now, .ref a_before, .int g_undoMany, .ref a_read, .int g_spot, .ref a_first, .ref a_second, .ref a_sums, .ref a_other, .int g_step, .int g_coverMany, .ref a_grid, .ref a_order, .int g_leastSums, .int g_leastPart])), (a_order, .inl (cI, 7, .inl v_order))]) ([.ref a_this, .int q1] : List Value).toArray s 0 0 A) (F0 m 41 ls []) := by
    intro x1 x2 g_order
    obtain ⟨F41, eF41⟩ : ∃ F : (Int32) → Prop, F = fun q => ∀ (H : Heap) (locs : List Loc) (ls : Array Slot), va_P D vwCl [(a_this, .inr (8, [.int g_length, .ref a_text, .ref a_now, .ref a_before, .int g_undoMany, .ref a_read, .int g_spot, .ref a_first, .ref a_second, .ref a_sums, .ref a_other, .int g_step, .int g_coverMany, .ref a_grid, .ref a_order, .int g_leastSums, .int g_leastPart])), (a_order, .inl (cI, 7, .inl g_order))] H → va_D A [(a_this, .inr (8, [.int g_length, .ref a_text, .ref a_now, .ref a_before, .int g_undoMany, .ref a_read, .int g_spot, .ref a_first, .ref a_second, .ref a_sums, .ref a_other, .int g_step, .int g_coverMany, .ref a_grid, .ref a_order, .int g_leastSums, .int g_leastPart])), (a_order, .inl (cI, 7, .inl g_order))] → va_S A s.heap H locs → lv_has ls 7 [(0, .ref a_this), (1, .int x1), (2, .int x2), (3, .int q)] → W p l e rmX8_nextOrder s m ([.ref a_this, .int q1] : List Value).toArray below meth c H locs 0 0 (MQ below (cQi D r0 A [(a_this, .inr (8, [.int g_length, .ref a_text, .ref a_now, .ref a_before, .int g_undoMany, .ref a_read, .int g_spot, .ref a_first, .ref a_second, .ref a_sums, .ref a_other, .int g_step, .int g_coverMany, .ref a_grid, .ref a_order, .int g_leastSums, .int g_leastPart])), (a_order, .inl (cI, 7, .inl v_order))]) ([.ref a_this, .int q1] : List Value).toArray s 0 0 A) (F0 m 41 ls []) := ⟨_, rfl⟩
    have key : ∀ (q : Int32) (t : Int32 × (Nat → Int32)), run (sX8_nextOrder_41 x1 x2 g_order) q = some t → (fun z => z = (r0, v_order)) t → F41 q := by
      refine loop_rule (sX8_nextOrder_41 x1 x2 g_order) F41 (fun z => z = (r0, v_order)) ?_
      intro q t hf hF
      have hF : (Sum.elim F41 (fun z => z = (r0, v_order))) t := hF
      rw [eF41]
      obtain ⟨x3, rfl⟩ : ∃ z, z = q := ⟨_, rfl⟩
      intro H locs ls hP hD hS hl
      have hP : va_P D vwCl [(a_this, .inr (8, [.int g_length, .ref a_text, .ref a_now, .ref a_before, .int g_undoMany, .ref a_read, .int g_spot, .ref a_first, .ref a_second, .ref a_sums, .ref a_other, .int g_step, .int g_coverMany, .ref a_grid, .ref a_order, .int g_leastSums, .int g_leastPart])), (a_order, .inl (cI, 7, .inl g_order))] H := hP
      have hD : va_D A [(a_this, .inr (8, [.int g_length, .ref a_text, .ref a_now, .ref a_before, .int g_undoMany, .ref a_read, .int g_spot, .ref a_first, .ref a_second, .ref a_sums, .ref a_other, .int g_step, .int g_coverMany, .ref a_grid, .ref a_order, .int g_leastSums, .int g_leastPart])), (a_order, .inl (cI, 7, .inl g_order))] := hD
      have hl : lv_has ls 7 [(0, .ref a_this), (1, .int x1), (2, .int x2), (3, .int x3)] := hl
      have hf : bX8_nextOrder_41 x1 x2 g_order x3 = some t := hf
      unfold bX8_nextOrder_41 at hf
      refine lv_aload_n hx hb dX8_nextOrder_41 rfl (lv_at hl 0 rfl) ?_
      refine va_get (D := D) (ci := 8) (v := .ref a_order) (C := RX8) (T := TX8) (N := 17) hx hb hts z1 hown hN.1 hP 0 rfl rfl 14 (by decide) z2 (fun _ h9 => h9) rfl dX8_nextOrder_42 ?_
      refine lv_iload_n hx hb dX8_nextOrder_45 rfl (lv_at hl 3 rfl) ?_
      obtain ⟨c13, hf⟩ := gd_some hf
      refine va_iald hx hb hN.1 hP 1 0 rfl rfl (ix_in c13) dX8_nextOrder_46 ?_
      refine lv_aload_n hx hb dX8_nextOrder_47 rfl (lv_at hl 0 rfl) ?_
      refine va_get (D := D) (ci := 8) (v := .ref a_order) (C := RX8) (T := TX8) (N := 17) hx hb hts z1 hown hN.1 hP 0 rfl rfl 14 (by decide) z2 (fun _ h9 => h9) rfl dX8_nextOrder_48 ?_
      refine lv_iload_n hx hb dX8_nextOrder_51 rfl (lv_at hl 2 rfl) ?_
      obtain ⟨c14, hf⟩ := gd_some hf
      refine va_iald hx hb hN.1 hP 1 0 rfl rfl (ix_in c14) dX8_nextOrder_52 ?_
      refine lv_icmp_ge (tgt := 62) hx hb dX8_nextOrder_53 (by decide) (fun c15 => ?_) (fun c15 => ?_)
      · have hf := br_pos c15 hf
        refine lv_aload_n hx hb dX8_nextOrder_62 rfl (lv_at hl 0 rfl) ?_
        refine va_get (D := D) (ci := 8) (v := .ref a_order) (C := RX8) (T := TX8) (N := 17) hx hb hts z1 hown hN.1 hP 0 rfl rfl 14 (by decide) z2 (fun _ h9 => h9) rfl dX8_nextOrder_63 ?_
        refine lv_iload_n hx hb dX8_nextOrder_66 rfl (lv_at hl 2 rfl) ?_
        obtain ⟨c16, hf⟩ := gd_some hf
        refine va_iald hx hb hN.1 hP 1 0 rfl rfl (ix_in c16) dX8_nextOrder_67 ?_
        refine lv_topi (fun y17 ey17 => ?_)
        have hf := lt_some hf y17 ey17
        refine lv_istore (lv' := [(4, .int y17), (0, .ref a_this), (1, .int x1), (2, .int x2), (3, .int x3)]) hx hb dX8_nextOrder_68 hl (by decide) rfl (fun ls hl => ?_)
        refine lv_aload_n hx hb dX8_nextOrder_70 rfl (lv_at hl 1 rfl) ?_
        refine va_get (D := D) (ci := 8) (v := .ref a_order) (C := RX8) (T := TX8) (N := 17) hx hb hts z1 hown hN.1 hP 0 rfl rfl 14 (by decide) z2 (fun _ h9 => h9) rfl dX8_nextOrder_71 ?_
        refine lv_iload_n hx hb dX8_nextOrder_74 rfl (lv_at hl 3 rfl) ?_
        refine lv_aload_n hx hb dX8_nextOrder_75 rfl (lv_at hl 1 rfl) ?_
        refine va_get (D := D) (ci := 8) (v := .ref a_order) (C := RX8) (T := TX8) (N := 17) hx hb hts z1 hown hN.1 hP 0 rfl rfl 14 (by decide) z2 (fun _ h9 => h9) rfl dX8_nextOrder_76 ?_
        refine lv_iload_n hx hb dX8_nextOrder_79 rfl (lv_at hl 4 rfl) ?_
        obtain ⟨c18, hf⟩ := gd_some hf
        refine va_iald hx hb hN.1 hP 1 0 rfl rfl (ix_in c18) dX8_nextOrder_80 ?_
        refine lv_topi (fun y19 ey19 => ?_)
        have hf := lt_some hf y19 ey19
        obtain ⟨c20, hf⟩ := gd_some hf
        refine va_iast hx hb hN.1 hP hD hS 1 0 rfl rfl (ix_in c20) dX8_nextOrder_81 (fun H locs hP hD hS => ?_)
        obtain ⟨y21, ey21⟩ : ∃ z, z = upd g_order x2.toNatClampNeg y19 := ⟨_, rfl⟩
        have hf := lt_some hf y21 ey21
        have hP : va_P D vwCl [(a_this, .inr (8, [.int g_length, .ref a_text, .ref a_now, .ref a_before, .int g_undoMany, .ref a_read, .int g_spot, .ref a_first, .ref a_second, .ref a_sums, .ref a_other, .int g_step, .int g_coverMany, .ref a_grid, .ref a_order, .int g_leastSums, .int g_leastPart])), (a_order, .inl (cI, 7, .inl y21))] H := by rw [ey21]; exact hP
        have hD : va_D A [(a_this, .inr (8, [.int g_length, .ref a_text, .ref a_now, .ref a_before, .int g_undoMany, .ref a_read, .int g_spot, .ref a_first, .ref a_second, .ref a_sums, .ref a_other, .int g_step, .int g_coverMany, .ref a_grid, .ref a_order, .int g_leastSums, .int g_leastPart])), (a_order, .inl (cI, 7, .inl y21))] := by rw [ey21]; exact hD
        refine lv_aload_n hx hb dX8_nextOrder_82 rfl (lv_at hl 1 rfl) ?_
        refine va_get (D := D) (ci := 8) (v := .ref a_order) (C := RX8) (T := TX8) (N := 17) hx hb hts z1 hown hN.1 hP 0 rfl rfl 14 (by decide) z2 (fun _ h9 => h9) rfl dX8_nextOrder_83 ?_
        refine lv_iload_n hx hb dX8_nextOrder_86 rfl (lv_at hl 4 rfl) ?_
        refine lv_iload hx hb dX8_nextOrder_87 (lv_at hl 0 rfl) ?_
        obtain ⟨c22, hf⟩ := gd_some hf
        refine va_iast hx hb hN.1 hP hD hS 1 0 rfl rfl (ix_in c22) dX8_nextOrder_89 (fun H locs hP hD hS => ?_)
        obtain ⟨y23, ey23⟩ : ∃ z, z = upd y21 x3.toNatClampNeg y17 := ⟨_, rfl⟩
        have hf := lt_some hf y23 ey23
        have hP : va_P D vwCl [(a_this, .inr (8, [.int g_length, .ref a_text, .ref a_now, .ref a_before, .int g_undoMany, .ref a_read, .int g_spot, .ref a_first, .ref a_second, .ref a_sums, .ref a_other, .int g_step, .int g_coverMany, .ref a_grid, .ref a_order, .int g_leastSums, .int g_leastPart])), (a_order, .inl (cI, 7, .inl y23))] H := by rw [ey23]; exact hP
        have hD : va_D A [(a_this, .inr (8, [.int g_length, .ref a_text, .ref a_now, .ref a_before, .int g_undoMany, .ref a_read, .int g_spot, .ref a_first, .ref a_second, .ref a_sums, .ref a_other, .int g_step, .int g_coverMany, .ref a_grid, .ref a_order, .int g_leastSums, .int g_leastPart])), (a_order, .inl (cI, 7, .inl y23))] := by rw [ey23]; exact hD
        refine lv_iload_n hx hb dX8_nextOrder_90 rfl (lv_at hl 3 rfl) ?_
        refine lv_iconst (v := 1) hx hb dX8_nextOrder_91 (by decide) ?_
        refine lv_iadd hx hb dX8_nextOrder_92 ?_
        refine lv_topi (fun y24 ey24 => ?_)
        have hf := lt_some hf y24 ey24
        refine lv_istore (lv' := [(5, .int y24), (4, .int y17), (0, .ref a_this), (1, .int x1), (2, .int x2), (3, .int x3)]) hx hb dX8_nextOrder_93 hl (by decide) rfl (fun ls hl => ?_)
        refine lv_iload_n hx hb dX8_nextOrder_95 rfl (lv_at hl 3 rfl) ?_
        refine lv_iconst (v := 1) hx hb dX8_nextOrder_96 (by decide) ?_
        refine lv_isub hx hb dX8_nextOrder_97 ?_
        refine lv_topi (fun y25 ey25 => ?_)
        have hf := lt_some hf y25 ey25
        refine lv_istore (lv' := [(6, .int y25), (5, .int y24), (4, .int y17), (0, .ref a_this), (1, .int x1), (2, .int x2), (3, .int x3)]) hx hb dX8_nextOrder_98 hl (by decide) rfl (fun ls hl => ?_)
        obtain ⟨t26, hf, hF⟩ := ml_fin hf hF
        have hF : t26 = (r0, v_order) := hF
        rw [hF] at hf
        exact w100 y24 y25 y23 (r0, v_order) H locs ls hf rfl hP hD hS (lv_sub hl [3, 1, 0] rfl)
      · have hf := br_neg c15 hf
        obtain ⟨y27, ey27⟩ : ∃ z : Int32, z = x3 + (-1 : Int32) := ⟨_, rfl⟩
        have hf := lt_some hf y27 ey27
        refine lv_iinc (v := y27) (lv' := [(3, .int y27), (0, .ref a_this), (1, .int x1), (2, .int x2)]) hx hb dX8_nextOrder_56 hl (k := 3) rfl (by rw [ey27]; rfl) (by decide) rfl (fun ls hl => ?_)
        refine lv_goto (tgt := 41) hx hb dX8_nextOrder_59 (by decide) ?_
        cases hf
        exact ((congrFun eF41 _).mp hF) H locs ls hP hD hS (lv_sub hl [1, 2, 3, 0] rfl)
    intro x3 t H locs ls hf hF hP hD hS hl
    exact ((congrFun eF41 _).mp (key x3 t hf hF)) H locs ls hP hD hS hl
  have w31 : ∀ (x1 : Int32) (x2 : Int32) (g_order : Nat → Int32) (H : Heap) (locs : List Loc) (ls : Array Slot), bX8_nextOrder_31 x1 x2 g_order = some ((r0, v_order)) → va_P D vwCl [(a_this, .inr (8, [.int g_length, .ref a_text, .ref a_now, .ref a_before, .int g_undoMany, .ref a_read, .int g_spot, .ref a_first, .ref a_second, .ref a_sums, .ref a_other, .int g_step, .int g_coverMany, .ref a_grid, .ref a_order, .int g_leastSums, .int g_leastPart])), (a_order, .inl (cI, 7, .inl g_order))] H → va_D A [(a_this, .inr (8, [.int g_length, .ref a_text, .ref a_now, .ref a_before, .int g_undoMany, .ref a_read, .int g_spot, .ref a_first, .ref a_second, .ref a_sums, .ref a_other, .int g_step, .int g_coverMany, .ref a_grid, .ref a_order, .int g_leastSums, .int g_leastPart])), (a_order, .inl (cI, 7, .inl g_order))] → va_S A s.heap H locs → lv_has ls 7 [(0, .ref a_this), (1, .int x1), (2, .int x2)] → W p l e rmX8_nextOrder s m ([.ref a_this, .int q1] : List Value).toArray below meth c H locs 0 0 (MQ below (cQi D r0 A [(a_this, .inr (8, [.int g_length, .ref a_text, .ref a_now, .ref a_before, .int g_undoMany, .ref a_read, .int g_spot, .ref a_first, .ref a_second, .ref a_sums, .ref a_other, .int g_step, .int g_coverMany, .ref a_grid, .ref a_order, .int g_leastSums, .int g_leastPart])), (a_order, .inl (cI, 7, .inl v_order))]) ([.ref a_this, .int q1] : List Value).toArray s 0 0 A) (F0 m 31 ls []) := by
    intro x1 x2 g_order H locs ls hf hP hD hS hl
    unfold bX8_nextOrder_31 at hf
    refine lv_iload_n hx hb dX8_nextOrder_31 rfl (lv_at hl 2 rfl) ?_
    refine lv_if_ge (tgt := 37) hx hb dX8_nextOrder_32 (by decide) (fun c28 => ?_) (fun c28 => ?_)
    · have hf := br_pos c28 hf
      refine lv_iload_n hx hb dX8_nextOrder_37 rfl (lv_at hl 1 rfl) ?_
      refine lv_iconst (v := 1) hx hb dX8_nextOrder_38 (by decide) ?_
      refine lv_isub hx hb dX8_nextOrder_39 ?_
      refine lv_topi (fun y29 ey29 => ?_)
      have hf := lt_some hf y29 ey29
      refine lv_istore_n (lv' := [(3, .int y29), (0, .ref a_this), (1, .int x1), (2, .int x2)]) hx hb dX8_nextOrder_40 rfl hl (by decide) rfl (fun ls hl => ?_)
      exact w41 x1 x2 g_order y29 (r0, v_order) H locs ls hf rfl hP hD hS (lv_sub hl [1, 2, 3, 0] rfl)
    · have hf := br_neg c28 hf
      refine lv_iconst (v := 0) hx hb dX8_nextOrder_35 (by decide) ?_
      obtain ⟨c30, hf⟩ := gd_some hf
      have hE : ((0 : Int32), g_order) = (r0, v_order) := Option.some.inj hf
      simp only [Prod.mk.injEq] at hE
      obtain ⟨rfl, rfl⟩ := hE
      exact rtZ hx hb hr hlk c30 hP hD hS dX8_nextOrder_36
  have w4 : ∀ (x1 : Int32) (g_order : Nat → Int32) (x2 : Int32) (t : Int32 × (Nat → Int32)) (H : Heap) (locs : List Loc) (ls : Array Slot), run (sX8_nextOrder_4 x1 g_order) x2 = some t → (fun z => z = (r0, v_order)) t → va_P D vwCl [(a_this, .inr (8, [.int g_length, .ref a_text, .ref a_now, .ref a_before, .int g_undoMany, .ref a_read, .int g_spot, .ref a_first, .ref a_second, .ref a_sums, .ref a_other, .int g_step, .int g_coverMany, .ref a_grid, .ref a_order, .int g_leastSums, .int g_leastPart])), (a_order, .inl (cI, 7, .inl g_order))] H → va_D A [(a_this, .inr (8, [.int g_length, .ref a_text, .ref a_now, .ref a_before, .int g_undoMany, .ref a_read, .int g_spot, .ref a_first, .ref a_second, .ref a_sums, .ref a_other, .int g_step, .int g_coverMany, .ref a_grid, .ref a_order, .int g_leastSums, .int g_leastPart])), (a_order, .inl (cI, 7, .inl g_order))] → va_S A s.heap H locs → lv_has ls 7 [(0, .ref a_this), (1, .int x1), (2, .int x2)] → W p l e rmX8_nextOrder s m ([.ref a_this, .int q1] : List Value).toArray below meth c H locs 0 0 (MQ below (cQi D r0 A [(a_this, .inr (8, [.int g_length, .ref a_text, .ref a_now, .ref a_before, .int g_undoMany, .ref a_read, .int g_spot, .ref a_first, .ref a_second, .ref a_sums, .ref a_other, .int g_step, .int g_coverMany, .ref a_grid, .ref a_order, .int g_leastSums, .int g_leastPart])), (a_order, .inl (cI, 7, .inl v_order))]) ([.ref a_this, .int q1] : List Value).toArray s 0 0 A) (F0 m 4 ls []) := by
    intro x1 g_order
    obtain ⟨F4, eF4⟩ : ∃ F : (Int32) → Prop, F = fun q => ∀ (H : Heap) (locs : List Loc) (ls : Array Slot), va_P D vwCl [(a_this, .inr (8, [.int g_length, .ref a_text, .ref a_now, .ref a_before, .int g_undoMany, .ref a_read, .int g_spot, .ref a_first, .ref a_second, .ref a_sums, .ref a_other, .int g_step, .int g_coverMany, .ref a_grid, .ref a_order, .int g_leastSums, .int g_leastPart])), (a_order, .inl (cI, 7, .inl g_order))] H → va_D A [(a_this, .inr (8, [.int g_length, .ref a_text, .ref a_now, .ref a_before, .int g_undoMany, .ref a_read, .int g_spot, .ref a_first, .ref a_second, .ref a_sums, .ref a_other, .int g_step, .int g_coverMany, .ref a_grid, .ref a_order, .int g_leastSums, .int g_leastPart])), (a_order, .inl (cI, 7, .inl g_order))] → va_S A s.heap H locs → lv_has ls 7 [(0, .ref a_this), (1, .int x1), (2, .int q)] → W p l e rmX8_nextOrder s m ([.ref a_this, .int q1] : List Value).toArray below meth c H locs 0 0 (MQ below (cQi D r0 A [(a_this, .inr (8, [.int g_length, .ref a_text, .ref a_now, .ref a_before, .int g_undoMany, .ref a_read, .int g_spot, .ref a_first, .ref a_second, .ref a_sums, .ref a_other, .int g_step, .int g_coverMany, .ref a_grid, .ref a_order, .int g_leastSums, .int g_leastPart])), (a_order, .inl (cI, 7, .inl v_order))]) ([.ref a_this, .int q1] : List Value).toArray s 0 0 A) (F0 m 4 ls []) := ⟨_, rfl⟩
    have key : ∀ (q : Int32) (t : Int32 × (Nat → Int32)), run (sX8_nextOrder_4 x1 g_order) q = some t → (fun z => z = (r0, v_order)) t → F4 q := by
      refine loop_rule (sX8_nextOrder_4 x1 g_order) F4 (fun z => z = (r0, v_order)) ?_
      intro q t hf hF
      have hF : (Sum.elim F4 (fun z => z = (r0, v_order))) t := hF
      rw [eF4]
      obtain ⟨x2, rfl⟩ : ∃ z, z = q := ⟨_, rfl⟩
      intro H locs ls hP hD hS hl
      have hP : va_P D vwCl [(a_this, .inr (8, [.int g_length, .ref a_text, .ref a_now, .ref a_before, .int g_undoMany, .ref a_read, .int g_spot, .ref a_first, .ref a_second, .ref a_sums, .ref a_other, .int g_step, .int g_coverMany, .ref a_grid, .ref a_order, .int g_leastSums, .int g_leastPart])), (a_order, .inl (cI, 7, .inl g_order))] H := hP
      have hD : va_D A [(a_this, .inr (8, [.int g_length, .ref a_text, .ref a_now, .ref a_before, .int g_undoMany, .ref a_read, .int g_spot, .ref a_first, .ref a_second, .ref a_sums, .ref a_other, .int g_step, .int g_coverMany, .ref a_grid, .ref a_order, .int g_leastSums, .int g_leastPart])), (a_order, .inl (cI, 7, .inl g_order))] := hD
      have hl : lv_has ls 7 [(0, .ref a_this), (1, .int x1), (2, .int x2)] := hl
      have hf : bX8_nextOrder_4 x1 g_order x2 = some t := hf
      unfold bX8_nextOrder_4 at hf
      refine lv_iload_n hx hb dX8_nextOrder_4 rfl (lv_at hl 2 rfl) ?_
      refine lv_if_lt (tgt := 31) hx hb dX8_nextOrder_5 (by decide) (fun c31 => ?_) (fun c31 => ?_)
      · have hf := br_pos c31 hf
        obtain ⟨t32, hf, hF⟩ := ml_fin hf hF
        have hF : t32 = (r0, v_order) := hF
        rw [hF] at hf
        exact w31 x1 x2 g_order H locs ls hf hP hD hS (lv_sub hl [0, 1, 2] rfl)
      · have hf := br_neg c31 hf
        refine lv_aload_n hx hb dX8_nextOrder_8 rfl (lv_at hl 0 rfl) ?_
        refine va_get (D := D) (ci := 8) (v := .ref a_order) (C := RX8) (T := TX8) (N := 17) hx hb hts z1 hown hN.1 hP 0 rfl rfl 14 (by decide) z2 (fun _ h9 => h9) rfl dX8_nextOrder_9 ?_
        refine lv_iload_n hx hb dX8_nextOrder_12 rfl (lv_at hl 2 rfl) ?_
        obtain ⟨c33, hf⟩ := gd_some hf
        refine va_iald hx hb hN.1 hP 1 0 rfl rfl (ix_in c33) dX8_nextOrder_13 ?_
        refine lv_aload_n hx hb dX8_nextOrder_14 rfl (lv_at hl 0 rfl) ?_
        refine va_get (D := D) (ci := 8) (v := .ref a_order) (C := RX8) (T := TX8) (N := 17) hx hb hts z1 hown hN.1 hP 0 rfl rfl 14 (by decide) z2 (fun _ h9 => h9) rfl dX8_nextOrder_15 ?_
        refine lv_iload_n hx hb dX8_nextOrder_18 rfl (lv_at hl 2 rfl) ?_
        refine lv_iconst (v := 1) hx hb dX8_nextOrder_19 (by decide) ?_
        refine lv_iadd hx hb dX8_nextOrder_20 ?_
        obtain ⟨c34, hf⟩ := gd_some hf
        refine va_iald hx hb hN.1 hP 1 0 rfl rfl (ix_in c34) dX8_nextOrder_21 ?_
        refine lv_icmp_le (tgt := 31) hx hb dX8_nextOrder_22 (by decide) (fun c35 => ?_) (fun c35 => ?_)
        · have hf := br_pos c35 hf
          obtain ⟨t36, hf, hF⟩ := ml_fin hf hF
          have hF : t36 = (r0, v_order) := hF
          rw [hF] at hf
          exact w31 x1 x2 g_order H locs ls hf hP hD hS (lv_sub hl [0, 1, 2] rfl)
        · have hf := br_neg c35 hf
          obtain ⟨y37, ey37⟩ : ∃ z : Int32, z = x2 + (-1 : Int32) := ⟨_, rfl⟩
          have hf := lt_some hf y37 ey37
          refine lv_iinc (v := y37) (lv' := [(2, .int y37), (0, .ref a_this), (1, .int x1)]) hx hb dX8_nextOrder_25 hl (k := 2) rfl (by rw [ey37]; rfl) (by decide) rfl (fun ls hl => ?_)
          refine lv_goto (tgt := 4) hx hb dX8_nextOrder_28 (by decide) ?_
          cases hf
          exact ((congrFun eF4 _).mp hF) H locs ls hP hD hS (lv_sub hl [1, 2, 0] rfl)
    intro x2 t H locs ls hf hF hP hD hS hl
    exact ((congrFun eF4 _).mp (key x2 t hf hF)) H locs ls hP hD hS hl
  unfold fX8_nextOrder at hf
  obtain ⟨H, eH⟩ : ∃ z, z = s.heap := ⟨_, rfl⟩
  obtain ⟨locs, eL⟩ : ∃ z : List Loc, z = [] := ⟨_, rfl⟩
  have hP : va_P D vwCl [(a_this, .inr (8, [.int g_length, .ref a_text, .ref a_now, .ref a_before, .int g_undoMany, .ref a_read, .int g_spot, .ref a_first, .ref a_second, .ref a_sums, .ref a_other, .int g_step, .int g_coverMany, .ref a_grid, .ref a_order, .int g_leastSums, .int g_leastPart])), (a_order, .inl (cI, 7, .inl g_order))] H := by rw [eH]; exact hP
  have hS : va_S A s.heap H locs := by rw [eH, eL]; exact hS
  suffices hG : W p l e rmX8_nextOrder s m ([.ref a_this, .int q1] : List Value).toArray below meth c H locs 0 0 (MQ below (cQi D r0 A [(a_this, .inr (8, [.int g_length, .ref a_text, .ref a_now, .ref a_before, .int g_undoMany, .ref a_read, .int g_spot, .ref a_first, .ref a_second, .ref a_sums, .ref a_other, .int g_step, .int g_coverMany, .ref a_grid, .ref a_order, .int g_leastSums, .int g_leastPart])), (a_order, .inl (cI, 7, .inl v_order))]) ([.ref a_this, .int q1] : List Value).toArray s 0 0 A) (F0 m 0 ls []) by rw [eH, eL] at hG; exact hG
  refine lv_iload_n hx hb dX8_nextOrder_0 rfl (lv_at hl 1 rfl) ?_
  refine lv_iconst (v := 2) hx hb dX8_nextOrder_1 (by decide) ?_
  refine lv_isub hx hb dX8_nextOrder_2 ?_
  refine lv_topi (fun y38 ey38 => ?_)
  have hf := lt_some hf y38 ey38
  refine lv_istore_n (lv' := [(2, .int y38), (0, .ref a_this), (1, .int q1)]) hx hb dX8_nextOrder_3 rfl hl (by decide) rfl (fun ls hl => ?_)
  exact w4 q1 g_order y38 (r0, v_order) H locs ls hf rfl hP hD hS (lv_sub hl [1, 2, 0] rfl)
