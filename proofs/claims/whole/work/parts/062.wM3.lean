abbrev rmX8_findPairing : Room := { frames := 1, cells := 0, slots := 0, locals := 26 }
noncomputable def bX8_findPairing_22 (x1 : Int32) (g_first : Nat → Int32) (g_second : Nat → Int32) (x2 : Int32) (g_order : Nat → Int32) : Option ((Int32 × (Nat → Int32)) ⊕ (Int32 × (Nat → Int32))) := br (x2 = 0) (gd (x2 = 0 ∨ x2 = 1) (some (Sum.inr ((x2, g_order))))) (bd (fX8_isPairing x1 g_first g_second g_order) (fun u3 => br (u3 = 0) (bd (fX8_nextOrder x1 g_order) (fun u6 => some (Sum.inl ((u6.1, u6.2))))) (gd (x2 = 0 ∨ x2 = 1) (some (Sum.inr ((x2, g_order)))))))
noncomputable def sX8_findPairing_22 (x1 : Int32) (g_first : Nat → Int32) (g_second : Nat → Int32) : (Int32 × (Nat → Int32)) → Option ((Int32 × (Nat → Int32)) ⊕ (Int32 × (Nat → Int32))) := fun q => bX8_findPairing_22 x1 g_first g_second q.1 q.2
noncomputable def bX8_findPairing_2 (x1 : Int32) (g_first : Nat → Int32) (g_second : Nat → Int32) (x2 : Int32) (g_order : Nat → Int32) : Option ((Int32 × (Nat → Int32)) ⊕ (Int32 × (Nat → Int32))) := br (x1 ≤ x2) (ml (run (sX8_findPairing_22 x1 g_first g_second) (((1 : Int32), g_order)))) (gd (¬ x2 < 0 ∧ x2.toNatClampNeg < 7) (lt_ (upd g_order x2.toNatClampNeg x2) (fun y10 => lt_ (x2 + (1 : Int32)) (fun y11 => some (Sum.inl ((y11, y10)))))))
noncomputable def sX8_findPairing_2 (x1 : Int32) (g_first : Nat → Int32) (g_second : Nat → Int32) : (Int32 × (Nat → Int32)) → Option ((Int32 × (Nat → Int32)) ⊕ (Int32 × (Nat → Int32))) := fun q => bX8_findPairing_2 x1 g_first g_second q.1 q.2
noncomputable def fX8_findPairing (q1 : Int32) (g_first : Nat → Int32) (g_second : Nat → Int32) (g_order : Nat → Int32) : Option (Int32 × (Nat → Int32)) := run (sX8_findPairing_2 q1 g_first g_second) (((0 : Int32), g_order))
set_option maxHeartbeats 4000000 in
set_option maxRecDepth 100000 in
theorem cX8_findPairing_ct (l : Launch) (D : va_G) (cI cL cC cZ : ClassId) (a_this a_text a_now a_before a_read a_first a_second a_sums a_other a_grid a_order : Nat) (g_length : Int32) (g_undoMany : Int32) (g_spot : Int32) (g_step : Int32) (g_coverMany : Int32) (g_leastSums : Int32) (g_leastPart : Int32) (g_first : Nat → Int32) (g_second : Nat → Int32) (g_order : Nat → Int32) (q1 : Int32) (r0 : Int32) (v_order : Nat → Int32) (hf : fX8_findPairing q1 g_first g_second g_order = some ((r0, v_order))) : CtI l yX8_findPairing wsX8_findPairing rmX8_findPairing D (tyz cI cL cC cZ) [.ref a_this, .int q1] [(a_this, .inr (8, [.int g_length, .ref a_text, .ref a_now, .ref a_before, .int g_undoMany, .ref a_read, .int g_spot, .ref a_first, .ref a_second, .ref a_sums, .ref a_other, .int g_step, .int g_coverMany, .ref a_grid, .ref a_order, .int g_leastSums, .int g_leastPart])), (a_first, .inl (cI, 41, .inl g_first)), (a_second, .inl (cI, 41, .inl g_second)), (a_order, .inl (cI, 7, .inl g_order))] [(a_this, .inr (8, [.int g_length, .ref a_text, .ref a_now, .ref a_before, .int g_undoMany, .ref a_read, .int g_spot, .ref a_first, .ref a_second, .ref a_sums, .ref a_other, .int g_step, .int g_coverMany, .ref a_grid, .ref a_order, .int g_leastSums, .int g_leastPart])), (a_first, .inl (cI, 41, .inl g_first)), (a_second, .inl (cI, 41, .inl g_second)), (a_order, .inl (cI, 7, .inl v_order))] r0 := by
  refine CtI.make (cc := cX8_findPairing) (maxL := 3) (ty := .boolean) (by decide) rfl (Nat.le_of_ble_eq_true rfl) ?_
  intro p e s m below meth c A ls C0 hN hA hP hD hl
  obtain ⟨hx, hb, hr, hml, hown, hts, hlk⟩ := id C0
  have hown : s.vm.findClass RX8 = some m.cls := hown
  have hS : va_S A s.heap s.heap [] := va_S.rf
  have hP : va_P D vwCl [(a_this, .inr (8, [.int g_length, .ref a_text, .ref a_now, .ref a_before, .int g_undoMany, .ref a_read, .int g_spot, .ref a_first, .ref a_second, .ref a_sums, .ref a_other, .int g_step, .int g_coverMany, .ref a_grid, .ref a_order, .int g_leastSums, .int g_leastPart])), (a_first, .inl (cI, 41, .inl g_first)), (a_second, .inl (cI, 41, .inl g_second)), (a_order, .inl (cI, 7, .inl g_order))] s.heap := hP
  have hD : va_D A [(a_this, .inr (8, [.int g_length, .ref a_text, .ref a_now, .ref a_before, .int g_undoMany, .ref a_read, .int g_spot, .ref a_first, .ref a_second, .ref a_sums, .ref a_other, .int g_step, .int g_coverMany, .ref a_grid, .ref a_order, .int g_leastSums, .int g_leastPart])), (a_first, .inl (cI, 41, .inl g_first)), (a_second, .inl (cI, 41, .inl g_second)), (a_order, .inl (cI, 7, .inl g_order))] := hD
  have hl : lv_has ls 3 [(0, .ref a_this), (1, .int q1)] := hl
  have z1 := cwV (R := rmX8_findPairing) (rm := rmX8_isPairing) (mc := 0) (ms := 0) 1 hts gX8_findPairing_X8_isPairing rfl rfl rfl (by decide +kernel) ⟨Nat.le_of_ble_eq_true rfl, Nat.le_of_ble_eq_true rfl⟩
  have z2 := cwV (R := rmX8_findPairing) (rm := rmX8_nextOrder) (mc := 0) (ms := 0) 1 hts gX8_findPairing_X8_nextOrder rfl rfl rfl (by decide +kernel) ⟨Nat.le_of_ble_eq_true rfl, Nat.le_of_ble_eq_true rfl⟩
  have z3 : ∀ w ∈ u_ws RX8 TX8 17, w ∈ wsX8_findPairing := by decide +kernel
  have z4 := hts (.fieldLink RX8 38 "LittleSumsModel" "order" "[I") (by decide +kernel)
  have w22 : ∀ (x1 : Int32) (g_first : Nat → Int32) (g_second : Nat → Int32) (x2 : Int32) (g_order : Nat → Int32) (t : Int32 × (Nat → Int32)) (H : Heap) (locs : List Loc) (ls : Array Slot), run (sX8_findPairing_22 x1 g_first g_second) ((x2, g_order)) = some t → (fun z => z = (r0, v_order)) t → va_P D vwCl [(a_this, .inr (8, [.int g_length, .ref a_text, .ref a_now, .ref a_before, .int g_undoMany, .ref a_read, .int g_spot, .ref a_first, .ref a_second, .ref a_sums, .ref a_other, .int g_step, .int g_coverMany, .ref a_grid, .ref a_order, .int g_leastSums, .int g_leastPart])), (a_first, .inl (cI, 41, .inl g_first)), (a_second, .inl (cI, 41, .inl g_second)), (a_order, .inl (cI, 7, .inl g_order))] H → va_D A [(a_this, .inr (8, [.int g_length, .ref a_text, .ref a_now, .ref a_before, .int g_undoMany, .ref a_read, .int g_spot, .ref a_first, .ref a_second, .ref a_sums, .ref a_other, .int g_step, .int g_coverMany, .ref a_grid, .ref a_order, .int g_leastSums, .int g_leastPart])), (a_first, .inl (cI, 41, .inl g_first)), (a_second, .inl (cI, 41, .inl g_second)), (a_order, .inl (cI, 7, .inl g_order))] → va_S A s.heap H locs → lv_has ls 3 [(0, .ref a_this), (1, .int x1), (2, .int x2)] → W p l e rmX8_findPairing s m ([.ref a_this, .int q1] : List Value).toArray below meth c H locs 0 0 (MQ below (cQi D r0 A [(a_this, .inr (8, [.int g_length, .ref a_text, .ref a_now, .ref a_before, .int g_undoMany, .ref a_read, .int g_spot, .ref a_first, .ref a_second, .ref a_sums, .ref a_other, .int g_step, .int g_coverMany, .ref a_grid, .ref a_order, .int g_leastSums, .int g_leastPart])), (a_first, .inl (cI, 41, .inl g_first)), (a_second, .inl (cI, 41, .inl g_second)), (a_order, .inl (cI, 7, .inl v_order))]) ([.ref a_this, .int q1] : List Value).toArray s 0 0 A) (F0 m 22 ls []) := by
    intro x1 g_first g_second
    obtain ⟨F22, eF22⟩ : ∃ F : (Int32 × (Nat → Int32)) → Prop, F = fun q => ∀ (H : Heap) (locs : List Loc) (ls : Array Slot), va_P D vwCl [(a_this, .inr (8, [.int g_length, .ref a_text, .ref a_now, .ref a_before, .int g_undoMany, .ref a_read, .int g_spot, .ref a_first, .ref a_second, .ref a_sums, .ref a_other, .int g_step, .int g_coverMany, .ref a_grid, .ref a_order, .int g_leastSums, .int g_leastPart])), (a_first, .inl (cI, 41, .inl g_first)), (a_second, .inl (cI, 41, .inl g_second)), (a_order, .inl (cI, 7, .inl q.2))] H → va_D A [(a_this, .inr (8, [.int g_length, .ref a_text, .ref a_now, .ref a_before, .int g_undoMany, .ref a_read, .int g_spot, .ref a_first, .ref a_second, .ref a_sums, .ref a_other, .int g_step, .int g_coverMany, .ref a_grid, .ref a_order, .int g_leastSums, .int g_leastPart])), (a_first, .inl (cI, 41, .inl g_first)), (a_second, .inl (cI, 41, .inl g_second)), (a_order, .inl (cI, 7, .inl q.2))] → va_S A s.heap H locs → lv_has ls 3 [(0, .ref a_this), (1, .int x1), (2, .int q.1)] → W p l e rmX8_findPairing s m ([.ref a_this, .int q1] : List Value).toArray below meth c H locs 0 0 (MQ below (cQi D r0 A [(a_this, .inr (8, [.int g_length, .ref a_text, .ref a_now, .ref a_before, .int g_undoMany, .ref a_read, .int g_spot, .ref a_first, .ref a_second, .ref a_sums, .ref a_other, .int g_step, .int g_coverMany, .ref a_grid, .ref a_order, .int g_leastSums, .int g_leastPart])), (a_first, .inl (cI, 41, .inl g_first)), (a_second, .inl (cI, 41, .inl g_second)), (a_order, .inl (cI, 7, .inl v_order))]) ([.ref a_this, .int q1] : List Value).toArray s 0 0 A) (F0 m 22 ls []) := ⟨_, rfl⟩
    have key : ∀ (q : Int32 × (Nat → Int32)) (t : Int32 × (Nat → Int32)), run (sX8_findPairing_22 x1 g_first g_second) q = some t → (fun z => z = (r0, v_order)) t → F22 q := by
      refine loop_rule (sX8_findPairing_22 x1 g_first g_second) F22 (fun z => z = (r0, v_order)) ?_
      intro q t hf hF
      have hF : (Sum.elim F22 (fun z => z = (r0, v_order))) t := hF
      rw [eF22]
      obtain ⟨x2, g_order⟩ := q
      intro H locs ls hP hD hS hl
      have hP : va_P D vwCl [(a_this, .inr (8, [.int g_length, .ref a_text, .ref a_now, .ref a_before, .int g_undoMany, .ref a_read, .int g_spot, .ref a_first, .ref a_second, .ref a_sums, .ref a_other, .int g_step, .int g_coverMany, .ref a_grid, .ref a_order, .int g_leastSums, .int g_leastPart])), (a_first, .inl (cI, 41, .inl g_first)), (a_second, .inl (cI, 41, .inl g_second)), (a_order, .inl (cI, 7, .inl g_order))] H := hP
      have hD : va_D A [(a_this, .inr (8, [.int g_length, .ref a_text, .ref a_now, .ref a_before, .int g_undoMany, .ref a_read, .int g_spot, .ref a_first, .ref a_second, .ref a_sums, .ref a_other, .int g_step, .int g_coverMany, .ref a_grid, .ref a_order, .int g_leastSums, .int g_leastPart])), (a_first, .inl (cI, 41, .inl g_first)), (a_second, .inl (cI, 41, .inl g_second)), (a_order, .inl (cI, 7, .inl g_order))] := hD
      have hl : lv_has ls 3 [(0, .ref a_this), (1, .int x1), (2, .int x2)] := hl
      have hf : bX8_findPairing_22 x1 g_first g_second x2 g_order = some t := hf
      unfold bX8_findPairing_22 at hf
      refine lv_iload_n hx hb dX8_findPairing_22 rfl (lv_at hl 2 rfl) ?_
      refine lv_if_eq (tgt := 43) hx hb dX8_findPairing_23 (by decide) (fun c1 => ?_) (fun c1 => ?_)
      · have hf := br_pos c1 hf
        refine lv_iload_n hx hb dX8_findPairing_43 rfl (lv_at hl 2 rfl) ?_
        obtain ⟨c2, hf⟩ := gd_some hf
        cases hf
        have hE : (x2, g_order) = (r0, v_order) := hF
        simp only [Prod.mk.injEq] at hE
        obtain ⟨rfl, rfl⟩ := hE
        exact rtZ hx hb hr hlk c2 hP hD hS dX8_findPairing_44
      · have hf := br_neg c1 hf
        refine lv_aload_n hx hb dX8_findPairing_26 rfl (lv_at hl 0 rfl) ?_
        refine lv_iload_n hx hb dX8_findPairing_27 rfl (lv_at hl 1 rfl) ?_
        obtain ⟨u3, hu3, hf⟩ := bd_some hf
        refine caVI (rest := []) (As := [.int x1]) (wr := []) (wo := [(a_this, .inr (8, [.int g_length, .ref a_text, .ref a_now, .ref a_before, .int g_undoMany, .ref a_read, .int g_spot, .ref a_first, .ref a_second, .ref a_sums, .ref a_other, .int g_step, .int g_coverMany, .ref a_grid, .ref a_order, .int g_leastSums, .int g_leastPart])), (a_first, .inl (cI, 41, .inl g_first)), (a_second, .inl (cI, 41, .inl g_second)), (a_order, .inl (cI, 7, .inl g_order))]) ⟨hx, hb, hml, hown, hts⟩ hN hP hD hS hA (cX8_isPairing_ct l D cI cL cC cZ a_this a_text a_now a_before a_read a_first a_second a_sums a_other a_grid a_order g_length g_undoMany g_spot g_step g_coverMany g_leastSums g_leastPart g_first g_second g_order x1 u3 hu3) z1 0 8 rfl rfl [0, 1, 2, 3] [] [0, 1, 2, 3] rfl (by decide) rfl (by decide) (by decide) rfl (by decide) rfl hl.1 rfl (Nat.le_of_ble_eq_true rfl) dX8_findPairing_28 ⟨Nat.zero_le _, Nat.zero_le _⟩ (fun H locs hP hD hS => ?_)
        refine lv_if_ne (tgt := 43) hx hb dX8_findPairing_31 (by decide) (fun c4 => ?_) (fun c4 => ?_)
        · have hf := br_neg c4 hf
          refine lv_iload_n hx hb dX8_findPairing_43 rfl (lv_at hl 2 rfl) ?_
          obtain ⟨c5, hf⟩ := gd_some hf
          cases hf
          have hE : (x2, g_order) = (r0, v_order) := hF
          simp only [Prod.mk.injEq] at hE
          obtain ⟨rfl, rfl⟩ := hE
          exact rtZ hx hb hr hlk c5 hP hD hS dX8_findPairing_44
        · have hf := br_pos c4 hf
          refine lv_aload_n hx hb dX8_findPairing_34 rfl (lv_at hl 0 rfl) ?_
          refine lv_iload_n hx hb dX8_findPairing_35 rfl (lv_at hl 1 rfl) ?_
          obtain ⟨u6, hu6, hf⟩ := bd_some hf
          refine caVI (rest := []) (As := [.int x1]) (wr := [(a_first, .inl (cI, 41, .inl g_first)), (a_second, .inl (cI, 41, .inl g_second))]) (wo := [(a_this, .inr (8, [.int g_length, .ref a_text, .ref a_now, .ref a_before, .int g_undoMany, .ref a_read, .int g_spot, .ref a_first, .ref a_second, .ref a_sums, .ref a_other, .int g_step, .int g_coverMany, .ref a_grid, .ref a_order, .int g_leastSums, .int g_leastPart])), (a_first, .inl (cI, 41, .inl g_first)), (a_second, .inl (cI, 41, .inl g_second)), (a_order, .inl (cI, 7, .inl u6.2))]) ⟨hx, hb, hml, hown, hts⟩ hN hP hD hS hA (cX8_nextOrder_ct l D cI cL cC cZ a_this a_text a_now a_before a_read a_first a_second a_sums a_other a_grid a_order g_length g_undoMany g_spot g_step g_coverMany g_leastSums g_leastPart g_order x1 u6.1 u6.2 hu6) z2 0 8 rfl rfl [0, 3] [1, 2] [2, 0, 1, 3] rfl (by decide) rfl (by decide) (by decide) rfl (by decide) rfl hl.1 rfl (Nat.le_of_ble_eq_true rfl) dX8_findPairing_36 ⟨Nat.zero_le _, Nat.zero_le _⟩ (fun H locs hP hD hS => ?_)
          refine lv_istore_n (lv' := [(2, .int u6.1), (0, .ref a_this), (1, .int x1)]) hx hb dX8_findPairing_39 rfl hl (by decide) rfl (fun ls hl => ?_)
          refine lv_goto (tgt := 22) hx hb dX8_findPairing_40 (by decide) ?_
          cases hf
          exact ((congrFun eF22 _).mp hF) H locs ls hP hD hS (lv_sub hl [1, 2, 0] rfl)
    intro x2 g_order t H locs ls hf hF hP hD hS hl
    exact ((congrFun eF22 _).mp (key ((x2, g_order)) t hf hF)) H locs ls hP hD hS hl
  have w2 : ∀ (x1 : Int32) (g_first : Nat → Int32) (g_second : Nat → Int32) (x2 : Int32) (g_order : Nat → Int32) (t : Int32 × (Nat → Int32)) (H : Heap) (locs : List Loc) (ls : Array Slot), run (sX8_findPairing_2 x1 g_first g_second) ((x2, g_order)) = some t → (fun z => z = (r0, v_order)) t → va_P D vwCl [(a_this, .inr (8, [.int g_length, .ref a_text, .ref a_now, .ref a_before, .int g_undoMany, .ref a_read, .int g_spot, .ref a_first, .ref a_second, .ref a_sums, .ref a_other, .int g_step, .int g_coverMany, .ref a_grid, .ref a_order, .int g_leastSums, .int g_leastPart])), (a_first, .inl (cI, 41, .inl g_first)), (a_second, .inl (cI, 41, .inl g_second)), (a_order, .inl (cI, 7, .inl g_order))] H → va_D A [(a_this, .inr (8, [.int g_length, .ref a_text, .ref a_now, .ref a_before, .int g_undoMany, .ref a_read, .int g_spot, .ref a_first, .ref a_second, .ref a_sums, .ref a_other, .int g_step, .int g_coverMany, .ref a_grid, .ref a_order, .int g_leastSums, .int g_leastPart])), (a_first, .inl (cI, 41, .inl g_first)), (a_second, .inl (cI, 41, .inl g_second)), (a_order, .inl (cI, 7, .inl g_order))] → va_S A s.heap H locs → lv_has ls 3 [(0, .ref a_this), (1, .int x1), (2, .int x2)] → W p l e rmX8_findPairing s m ([.ref a_this, .int q1] : List Value).toArray below meth c H locs 0 0 (MQ below (cQi D r0 A [(a_this, .inr (8, [.int g_length, .ref a_text, .ref a_now, .ref a_before, .int g_undoMany, .ref a_read, .int g_spot, .ref a_first, .ref a_second, .ref a_sums, .ref a_other, .int g_step, .int g_coverMany, .ref a_grid, .ref a_order, .int g_leastSums, .int g_leastPart])), (a_first, .inl (cI, 41, .inl g_first)), (a_second, .inl (cI, 41, .inl g_second)), (a_order, .inl (cI, 7, .inl v_order))]) ([.ref a_this, .int q1] : List Value).toArray s 0 0 A) (F0 m 2 ls []) := by
    intro x1 g_first g_second
    obtain ⟨F2, eF2⟩ : ∃ F : (Int32 × (Nat → Int32)) → Prop, F = fun q => ∀ (H : Heap) (locs : List Loc) (ls : Array Slot), va_P D vwCl [(a_this, .inr (8, [.int g_length, .ref a_text, .ref a_now, .ref a_before, .int g_undoMany, .ref a_read, .int g_spot, .ref a_first, .ref a_second, .ref a_sums, .ref a_other, .int g_step, .int g_coverMany, .ref a_grid, .ref a_order, .int g_leastSums, .int g_leastPart])), (a_first, .inl (cI, 41, .inl g_first)), (a_second, .inl (cI, 41, .inl g_second)), (a_order, .inl (cI, 7, .inl q.2))] H → va_D A [(a_this, .inr (8, [.int g_length, .ref a_text, .ref a_now, .ref a_before, .int g_undoMany, .ref a_read, .int g_spot, .ref a_first, .ref a_second, .ref a_sums, .ref a_other, .int g_step, .int g_coverMany, .ref a_grid, .ref a_order, .int g_leastSums, .int g_leastPart])), (a_first, .inl (cI, 41, .inl g_first)), (a_second, .inl (cI, 41, .inl g_second)), (a_order, .inl (cI, 7, .inl q.2))] → va_S A s.heap H locs → lv_has ls 3 [(0, .ref a_this), (1, .int x1), (2, .int q.1)] → W p l e rmX8_findPairing s m ([.ref a_this, .int q1] : List Value).toArray below meth c H locs 0 0 (MQ below (cQi D r0 A [(a_this, .inr (8, [.int g_length, .ref a_text, .ref a_now, .ref a_before, .int g_undoMany, .ref a_read, .int g_spot, .ref a_first, .ref a_second, .ref a_sums, .ref a_other, .int g_step, .int g_coverMany, .ref a_grid, .ref a_order, .int g_leastSums, .int g_leastPart])), (a_first, .inl (cI, 41, .inl g_first)), (a_second, .inl (cI, 41, .inl g_second)), (a_order, .inl (cI, 7, .inl v_order))]) ([.ref a_this, .int q1] : List Value).toArray s 0 0 A) (F0 m 2 ls []) := ⟨_, rfl⟩
    have key : ∀ (q : Int32 × (Nat → Int32)) (t : Int32 × (Nat → Int32)), run (sX8_findPairing_2 x1 g_first g_second) q = some t → (fun z => z = (r0, v_order)) t → F2 q := by
      refine loop_rule (sX8_findPairing_2 x1 g_first g_second) F2 (fun z => z = (r0, v_order)) ?_
      intro q t hf hF
      have hF : (Sum.elim F2 (fun z => z = (r0, v_order))) t := hF
      rw [eF2]
      obtain ⟨x2, g_order⟩ := q
      intro H locs ls hP hD hS hl
      have hP : va_P D vwCl [(a_this, .inr (8, [.int g_length, .ref a_text, .ref a_now, .ref a_before, .int g_undoMany, .ref a_read, .int g_spot, .ref a_first, .ref a_second, .ref a_sums, .ref a_other, .int g_step, .int g_coverMany, .ref a_grid, .ref a_order, .int g_leastSums, .int g_leastPart])), (a_first, .inl (cI, 41, .inl g_first)), (a_second, .inl (cI, 41, .inl g_second)), (a_order, .inl (cI, 7, .inl g_order))] H := hP
      have hD : va_D A [(a_this, .inr (8, [.int g_length, .ref a_text, .ref a_now, .ref a_before, .int g_undoMany, .ref a_read, .int g_spot, .ref a_first, .ref a_second, .ref a_sums, .ref a_other, .int g_step, .int g_coverMany, .ref a_grid, .ref a_order, .int g_leastSums, .int g_leastPart])), (a_first, .inl (cI, 41, .inl g_first)), (a_second, .inl (cI, 41, .inl g_second)), (a_order, .inl (cI, 7, .inl g_order))] := hD
      have hl : lv_has ls 3 [(0, .ref a_this), (1, .int x1), (2, .int x2)] := hl
      have hf : bX8_findPairing_2 x1 g_first g_second x2 g_order = some t := hf
      unfold bX8_findPairing_2 at hf
      refine lv_iload_n hx hb dX8_findPairing_2 rfl (lv_at hl 2 rfl) ?_
      refine lv_iload_n hx hb dX8_findPairing_3 rfl (lv_at hl 1 rfl) ?_
      refine lv_icmp_ge (tgt := 20) hx hb dX8_findPairing_4 (by decide) (fun c7 => ?_) (fun c7 => ?_)
      · have hf := br_pos c7 hf
        refine lv_iconst (v := 1) hx hb dX8_findPairing_20 (by decide) ?_
        refine lv_istore_n (lv' := [(2, .int (1 : Int32)), (0, .ref a_this), (1, .int x1)]) hx hb dX8_findPairing_21 rfl hl (by decide) rfl (fun ls hl => ?_)
        obtain ⟨t8, hf, hF⟩ := ml_fin hf hF
        have hF : t8 = (r0, v_order) := hF
        rw [hF] at hf
        exact w22 x1 g_first g_second (1 : Int32) g_order (r0, v_order) H locs ls hf rfl hP hD hS (lv_sub hl [1, 2, 0] rfl)
      · have hf := br_neg c7 hf
        refine lv_aload_n hx hb dX8_findPairing_7 rfl (lv_at hl 0 rfl) ?_
        refine va_get (D := D) (ci := 8) (v := .ref a_order) (C := RX8) (T := TX8) (N := 17) hx hb hts z3 hown hN.1 hP 0 rfl rfl 14 (by decide) z4 (fun _ h9 => h9) rfl dX8_findPairing_8 ?_
        refine lv_iload_n hx hb dX8_findPairing_11 rfl (lv_at hl 2 rfl) ?_
        refine lv_iload_n hx hb dX8_findPairing_12 rfl (lv_at hl 2 rfl) ?_
        obtain ⟨c9, hf⟩ := gd_some hf
        refine va_iast hx hb hN.1 hP hD hS 3 0 rfl rfl (ix_in c9) dX8_findPairing_13 (fun H locs hP hD hS => ?_)
        obtain ⟨y10, ey10⟩ : ∃ z, z = upd g_order x2.toNatClampNeg x2 := ⟨_, rfl⟩
        have hf := lt_some hf y10 ey10
        have hP : va_P D vwCl [(a_this, .inr (8, [.int g_length, .ref a_text, .ref a_now, .ref a_before, .int g_undoMany, .ref a_read, .int g_spot, .ref a_first, .ref a_second, .ref a_sums, .ref a_other, .int g_step, .int g_coverMany, .ref a_grid, .ref a_order, .int g_leastSums, .int g_leastPart])), (a_first, .inl (cI, 41, .inl g_first)), (a_second, .inl (cI, 41, .inl g_second)), (a_order, .inl (cI, 7, .inl y10))] H := by rw [ey10]; exact hP
        have hD : va_D A [(a_this, .inr (8, [.int g_length, .ref a_text, .ref a_now, .ref a_before, .int g_undoMany, .ref a_read, .int g_spot, .ref a_first, .ref a_second, .ref a_sums, .ref a_other, .int g_step, .int g_coverMany, .ref a_grid, .ref a_order, .int g_leastSums, .int g_leastPart])), (a_first, .inl (cI, 41, .inl g_first)), (a_second, .inl (cI, 41, .inl g_second)), (a_order, .inl (cI, 7, .inl y10))] := by rw [ey10]; exact hD
        obtain ⟨y11, ey11⟩ : ∃ z : Int32, z = x2 + (1 : Int32) := ⟨_, rfl⟩
        have hf := lt_some hf y11 ey11
        refine lv_iinc (v := y11) (lv' := [(2, .int y11), (0, .ref a_this), (1, .int x1)]) hx hb dX8_findPairing_14 hl (k := 2) rfl (by rw [ey11]; rfl) (by decide) rfl (fun ls hl => ?_)
        refine lv_goto (tgt := 2) hx hb dX8_findPairing_17 (by decide) ?_
        cases hf
        exact ((congrFun eF2 _).mp hF) H locs ls hP hD hS (lv_sub hl [1, 2, 0] rfl)
    intro x2 g_order t H locs ls hf hF hP hD hS hl
    exact ((congrFun eF2 _).mp (key ((x2, g_order)) t hf hF)) H locs ls hP hD hS hl
  unfold fX8_findPairing at hf
  obtain ⟨H, eH⟩ : ∃ z, z = s.heap := ⟨_, rfl⟩
  obtain ⟨locs, eL⟩ : ∃ z : List Loc, z = [] := ⟨_, rfl⟩
  have hP : va_P D vwCl [(a_this, .inr (8, [.int g_length, .ref a_text, .ref a_now, .ref a_before, .int g_undoMany, .ref a_read, .int g_spot, .ref a_first, .ref a_second, .ref a_sums, .ref a_other, .int g_step, .int g_coverMany, .ref a_grid, .ref a_order, .int g_leastSums, .int g_leastPart])), (a_first, .inl (cI, 41, .inl g_first)), (a_second, .inl (cI, 41, .inl g_second)), (a_order, .inl (cI, 7, .inl g_order))] H := by rw [eH]; exact hP
  have hS : va_S A s.heap H locs := by rw [eH, eL]; exact hS
  suffices hG : W p l e rmX8_findPairing s m ([.ref a_this, .int q1] : List Value).toArray below meth c H locs 0 0 (MQ below (cQi D r0 A [(a_this, .inr (8, [.int g_length, .ref a_text, .ref a_now, .ref a_before, .int g_undoMany, .ref a_read, .int g_spot, .ref a_first, .ref a_second, .ref a_sums, .ref a_other, .int g_step, .int g_coverMany, .ref a_grid, .ref a_order, .int g_leastSums, .int g_leastPart])), (a_first, .inl (cI, 41, .inl g_first)), (a_second, .inl (cI, 41, .inl g_second)), (a_order, .inl (cI, 7, .inl v_order))]) ([.ref a_this, .int q1] : List Value).toArray s 0 0 A) (F0 m 0 ls []) by rw [eH, eL] at hG; exact hG
  refine lv_iconst (v := 0) hx hb dX8_findPairing_0 (by decide) ?_
  refine lv_istore_n (lv' := [(2, .int (0 : Int32)), (0, .ref a_this), (1, .int q1)]) hx hb dX8_findPairing_1 rfl hl (by decide) rfl (fun ls hl => ?_)
  exact w2 q1 g_first g_second (0 : Int32) g_order (r0, v_order) H locs ls hf rfl hP hD hS (lv_sub hl [1, 2, 0] rfl)
abbrev rmX8_alikeMany : Room := { frames := 1, cells := 0, slots := 0, locals := 25 }
noncomputable def bX8_alikeMany_39 (g_now : Nat → Int32) (g_first : Nat → Int32) (g_second : Nat → Int32) : Option (Int32 × (Nat → Int32) × (Nat → Int32)) := some (((-2 : Int32), g_first, g_second))
noncomputable def fX8_alikeMany (q1 : Int32) (q2 : Int32) (g_now : Nat → Int32) (g_first : Nat → Int32) (g_second : Nat → Int32) : Option (Int32 × (Nat → Int32) × (Nat → Int32)) := bd (fX8_lists q1 41 g_now g_first) (fun u1 => bd (fX8_lists q2 41 g_now g_second) (fun u2 => br (u1.1 = u2.1) (bd (fX8_in u1.1.toInt64 (1 : Int64) (7 : Int64)) (fun u4 => br (u4 = 0) (bX8_alikeMany_39 g_now u1.2 u2.2) (some ((u1.1, u1.2, u2.2))))) (bX8_alikeMany_39 g_now u1.2 u2.2)))
set_option maxHeartbeats 4000000 in
set_option maxRecDepth 100000 in
theorem cX8_alikeMany_ct (l : Launch) (D : va_G) (cI cL cC cZ : ClassId) (a_this a_text a_now a_before a_read a_first a_second a_sums a_other a_grid a_order : Nat) (g_length : Int32) (g_undoMany : Int32) (g_spot : Int32) (g_step : Int32) (g_coverMany : Int32) (g_leastSums : Int32) (g_leastPart : Int32) (g_now : Nat → Int32) (g_first : Nat → Int32) (g_second : Nat → Int32) (q1 : Int32) (q2 : Int32) (r0 : Int32) (v_first : Nat → Int32) (v_second : Nat → Int32) (hf : fX8_alikeMany q1 q2 g_now g_first g_second = some ((r0, v_first, v_second))) : CtI l yX8_alikeMany wsX8_alikeMany rmX8_alikeMany D (tyz cI cL cC cZ) [.ref a_this, .int q1, .int q2] [(a_this, .inr (8, [.int g_length, .ref a_text, .ref a_now, .ref a_before, .int g_undoMany, .ref a_read, .int g_spot, .ref a_first, .ref a_second, .ref a_sums, .ref a_other, .int g_step, .int g_coverMany, .ref a_grid, .ref a_order, .int g_leastSums, .int g_leastPart])), (a_now, .inl (cZ, 164, .inl g_now)), (a_first, .inl (cI, 41, .inl g_first)), (a_second, .inl (cI, 41, .inl g_second))] [(a_this, .inr (8, [.int g_length, .ref a_text, .ref a_now, .ref a_before, .int g_undoMany, .ref a_read, .int g_spot, .ref a_first, .ref a_second, .ref a_sums, .ref a_other, .int g_step, .int g_coverMany, .ref a_grid, .ref a_order, .int g_leastSums, .int g_leastPart])), (a_now, .inl (cZ, 164, .inl g_now)), (a_first, .inl (cI, 41, .inl v_first)), (a_second, .inl (cI, 41, .inl v_second))] r0 := by
  refine CtI.make (cc := cX8_alikeMany) (maxL := 5) (ty := .int) (by decide) rfl (Nat.le_of_ble_eq_true rfl) ?_
  intro p e s m below meth c A ls C0 hN hA hP hD hl
  obtain ⟨hx, hb, hr, hml, hown, hts, hlk⟩ := id C0
  have hown : s.vm.findClass RX8 = some m.cls := hown
  have hS : va_S A s.heap s.heap [] := va_S.rf
  have hP : va_P D vwCl [(a_this, .inr (8, [.int g_length, .ref a_text, .ref a_now, .ref a_before, .int g_undoMany, .ref a_read, .int g_spot, .ref a_first, .ref a_second, .ref a_sums, .ref a_other, .int g_step, .int g_coverMany, .ref a_grid, .ref a_order, .int g_leastSums, .int g_leastPart])), (a_now, .inl (cZ, 164, .inl g_now)), (a_first, .inl (cI, 41, .inl g_first)), (a_second, .inl (cI, 41, .inl g_second))] s.heap := hP
  have hD : va_D A [(a_this, .inr (8, [.int g_length, .ref a_text, .ref a_now, .ref a_before, .int g_undoMany, .ref a_read, .int g_spot, .ref a_first, .ref a_second, .ref a_sums, .ref a_other, .int g_step, .int g_coverMany, .ref a_grid, .ref a_order, .int g_leastSums, .int g_leastPart])), (a_now, .inl (cZ, 164, .inl g_now)), (a_first, .inl (cI, 41, .inl g_first)), (a_second, .inl (cI, 41, .inl g_second))] := hD
  have hl : lv_has ls 5 [(0, .ref a_this), (1, .int q1), (2, .int q2)] := hl
  have z1 : ∀ w ∈ u_ws RX8 TX8 17, w ∈ wsX8_alikeMany := by decide +kernel
  have z2 := hts (.fieldLink RX8 23 "LittleSumsModel" "first" "[I") (by decide +kernel)
  have z3 := cwV (R := rmX8_alikeMany) (rm := rmX8_lists) (mc := 0) (ms := 0) 2 hts gX8_alikeMany_X8_lists rfl rfl rfl (by decide +kernel) ⟨Nat.le_of_ble_eq_true rfl, Nat.le_of_ble_eq_true rfl⟩
  have z4 := hts (.fieldLink RX8 26 "LittleSumsModel" "second" "[I") (by decide +kernel)
  have z5 := hts (.constantLong RX8 159 (7)) (by decide +kernel)
  have z6 := va_cwS (R := rmX8_alikeMany) (rm := rmX8_in) (mc := 0) (ms := 0) 3 hts gX8_alikeMany_X8_in rfl rfl rfl (by decide +kernel) ⟨Nat.le_of_ble_eq_true rfl, Nat.le_of_ble_eq_true rfl⟩
  have w39 : ∀ (g_now : Nat → Int32) (g_first : Nat → Int32) (g_second : Nat → Int32) (H : Heap) (locs : List Loc) (ls : Array Slot), bX8_alikeMany_39 g_now g_first g_second = some ((r0, v_first, v_second)) → va_P D vwCl [(a_this, .inr (8, [.int g_length, .ref a_text, .ref a_now, .ref a_before, .int g_undoMany, .ref a_read, .int g_spot, .ref a_first, .ref a_second, .ref a_sums, .ref a_other, .int g_step, .int g_coverMany, .ref a_grid, .ref a_order, .int g_leastSums, .int g_leastPart])), (a_now, .inl (cZ, 164, .inl g_now)), (a_first, .inl (cI, 41, .inl g_first)), (a_second, .inl (cI, 41, .inl g_second))] H → va_D A [(a_this, .inr (8, [.int g_length, .ref a_text, .ref a_now, .ref a_before, .int g_undoMany, .ref a_read, .int g_spot, .ref a_first, .ref a_second, .ref a_sums, .ref a_other, .int g_step, .int g_coverMany, .ref a_grid, .ref a_order, .int g_leastSums, .int g_leastPart])), (a_now, .inl (cZ, 164, .inl g_now)), (a_first, .inl (cI, 41, .inl g_first)), (a_second, .inl (cI, 41, .inl g_second))] → va_S A s.heap H locs → lv_has ls 5 [] → W p l e rmX8_alikeMany s m ([.ref a_this, .int q1, .int q2] : List Value).toArray below meth c H locs 0 0 (MQ below (cQi D r0 A [(a_this, .inr (8, [.int g_length, .ref a_text, .ref a_now, .ref a_before, .int g_undoMany, .ref a_read, .int g_spot, .ref a_first, .ref a_second, .ref a_sums, .ref a_other, .int g_step, .int g_coverMany, .ref a_grid, .ref a_order, .int g_leastSums, .int g_leastPart])), (a_now, .inl (cZ, 164, .inl g_now)), (a_first, .inl (cI, 41, .inl v_first)), (a_second, .inl (cI, 41, .inl v_second))]) ([.ref a_this, .int q1, .int q2] : List Value).toArray s 0 0 A) (F0 m 39 ls []) := by
    intro g_now g_first g_second H locs ls hf hP hD hS hl
    unfold bX8_alikeMany_39 at hf
    refine lv_bipush (v := -2) hx hb dX8_alikeMany_39 (by decide) ?_
    refine lv_goto (tgt := 45) hx hb dX8_alikeMany_41 (by decide) ?_
    have hE : ((-2 : Int32), g_first, g_second) = (r0, v_first, v_second) := Option.some.inj hf
    simp only [Prod.mk.injEq] at hE
    obtain ⟨rfl, rfl, rfl⟩ := hE
    exact rtI hx hb hr hlk hP hD hS dX8_alikeMany_45
  unfold fX8_alikeMany at hf
  obtain ⟨H, eH⟩ : ∃ z, z = s.heap := ⟨_, rfl⟩
  obtain ⟨locs, eL⟩ : ∃ z : List Loc, z = [] := ⟨_, rfl⟩
  have hP : va_P D vwCl [(a_this, .inr (8, [.int g_length, .ref a_text, .ref a_now, .ref a_before, .int g_undoMany, .ref a_read, .int g_spot, .ref a_first, .ref a_second, .ref a_sums, .ref a_other, .int g_step, .int g_coverMany, .ref a_grid, .ref a_order, .int g_leastSums, .int g_leastPart])), (a_now, .inl (cZ, 164, .inl g_now)), (a_first, .inl (cI, 41, .inl g_first)), (a_second, .inl (cI, 41, .inl g_second))] H := by rw [eH]; exact hP
  have hS : va_S A s.heap H locs := by rw [eH, eL]; exact hS
  suffices hG : W p l e rmX8_alikeMany s m ([.ref a_this, .int q1, .int q2] : List Value).toArray below meth c H locs 0 0 (MQ below (cQi D r0 A [(a_this, .inr (8, [.int g_length, .ref a_text, .ref a_now, .ref a_before, .int g_undoMany, .ref a_read, .int g_spot, .ref a_first, .ref a_second, .ref a_sums, .ref a_other, .int g_step, .int g_coverMany, .ref a_grid, .ref a_order, .int g_leastSums, .int g_leastPart])), (a_now, .inl (cZ, 164, .inl g_now)), (a_first, .inl (cI, 41, .inl v_first)), (a_second, .inl (cI, 41, .inl v_second))]) ([.ref a_this, .int q1, .int q2] : List Value).toArray s 0 0 A) (F0 m 0 ls []) by rw [eH, eL] at hG; exact hG
  refine lv_aload_n hx hb dX8_alikeMany_0 rfl (lv_at hl 0 rfl) ?_
  refine lv_iload_n hx hb dX8_alikeMany_1 rfl (lv_at hl 1 rfl) ?_
  refine lv_aload_n hx hb dX8_alikeMany_2 rfl (lv_at hl 0 rfl) ?_
  refine va_get (D := D) (ci := 8) (v := .ref a_first) (C := RX8) (T := TX8) (N := 17) hx hb hts z1 hown hN.1 hP 0 rfl rfl 7 (by decide) z2 (fun _ h9 => h9) rfl dX8_alikeMany_3 ?_
  obtain ⟨u1, hu1, hf⟩ := bd_some hf
  refine caVI (rest := []) (As := [.int q1, .ref a_first]) (wr := [(a_second, .inl (cI, 41, .inl g_second))]) (wo := [(a_this, .inr (8, [.int g_length, .ref a_text, .ref a_now, .ref a_before, .int g_undoMany, .ref a_read, .int g_spot, .ref a_first, .ref a_second, .ref a_sums, .ref a_other, .int g_step, .int g_coverMany, .ref a_grid, .ref a_order, .int g_leastSums, .int g_leastPart])), (a_now, .inl (cZ, 164, .inl g_now)), (a_first, .inl (cI, 41, .inl u1.2)), (a_second, .inl (cI, 41, .inl g_second))]) ⟨hx, hb, hml, hown, hts⟩ hN hP hD hS hA (cX8_lists_ct l D cI cL cC cZ a_this a_first a_text a_now a_before a_read a_first a_second a_sums a_other a_grid a_order 41 g_length g_undoMany g_spot g_step g_coverMany g_leastSums g_leastPart g_now g_first q1 u1.1 u1.2 hu1) z3 0 8 rfl rfl [0, 1, 2] [3] [1, 2, 3, 0] rfl (by decide) rfl (by decide) (by decide) rfl (by decide) rfl hl.1 rfl (Nat.le_of_ble_eq_true rfl) dX8_alikeMany_6 ⟨Nat.zero_le _, Nat.zero_le _⟩ (fun H locs hP hD hS => ?_)
  refine lv_istore_n (lv' := [(3, .int u1.1), (0, .ref a_this), (1, .int q1), (2, .int q2)]) hx hb dX8_alikeMany_9 rfl hl (by decide) rfl (fun ls hl => ?_)
  refine lv_aload_n hx hb dX8_alikeMany_10 rfl (lv_at hl 1 rfl) ?_
  refine lv_iload_n hx hb dX8_alikeMany_11 rfl (lv_at hl 3 rfl) ?_
  refine lv_aload_n hx hb dX8_alikeMany_12 rfl (lv_at hl 1 rfl) ?_
  refine va_get (D := D) (ci := 8) (v := .ref a_second) (C := RX8) (T := TX8) (N := 17) hx hb hts z1 hown hN.1 hP 0 rfl rfl 8 (by decide) z4 (fun _ h9 => h9) rfl dX8_alikeMany_13 ?_
  obtain ⟨u2, hu2, hf⟩ := bd_some hf
  refine caVI (rest := []) (As := [.int q2, .ref a_second]) (wr := [(a_first, .inl (cI, 41, .inl u1.2))]) (wo := [(a_this, .inr (8, [.int g_length, .ref a_text, .ref a_now, .ref a_before, .int g_undoMany, .ref a_read, .int g_spot, .ref a_first, .ref a_second, .ref a_sums, .ref a_other, .int g_step, .int g_coverMany, .ref a_grid, .ref a_order, .int g_leastSums, .int g_leastPart])), (a_now, .inl (cZ, 164, .inl g_now)), (a_first, .inl (cI, 41, .inl u1.2)), (a_second, .inl (cI, 41, .inl u2.2))]) ⟨hx, hb, hml, hown, hts⟩ hN hP hD hS hA (cX8_lists_ct l D cI cL cC cZ a_this a_second a_text a_now a_before a_read a_first a_second a_sums a_other a_grid a_order 41 g_length g_undoMany g_spot g_step g_coverMany g_leastSums g_leastPart g_now g_second q2 u2.1 u2.2 hu2) z3 0 8 rfl rfl [0, 1, 3] [2] [1, 2, 0, 3] rfl (by decide) rfl (by decide) (by decide) rfl (by decide) rfl hl.1 rfl (Nat.le_of_ble_eq_true rfl) dX8_alikeMany_16 ⟨Nat.zero_le _, Nat.zero_le _⟩ (fun H locs hP hD hS => ?_)
  refine lv_istore (lv' := [(4, .int u2.1), (3, .int u1.1), (0, .ref a_this), (1, .int q1), (2, .int q2)]) hx hb dX8_alikeMany_19 hl (by decide) rfl (fun ls hl => ?_)
  refine lv_iload_n hx hb dX8_alikeMany_21 rfl (lv_at hl 1 rfl) ?_
  refine lv_iload hx hb dX8_alikeMany_22 (lv_at hl 0 rfl) ?_
  refine lv_icmp_ne (tgt := 39) hx hb dX8_alikeMany_24 (by decide) (fun c3 => ?_) (fun c3 => ?_)
  · have hf := br_neg c3 hf
    exact w39 g_now u1.2 u2.2 H locs ls hf hP hD hS (lv_sub hl [] rfl)
  · have hf := br_pos c3 hf
    refine lv_iload_n hx hb dX8_alikeMany_27 rfl (lv_at hl 1 rfl) ?_
    refine lv_i2l hx hb dX8_alikeMany_28 rfl ?_
    refine lv_lconst (v := 1) hx hb dX8_alikeMany_29 (by decide) ?_
    refine lv_ldc2 (v := 7) hx hb hown z5 dX8_alikeMany_30 ?_
    obtain ⟨u4, hu4, hf⟩ := bd_some hf
    refine caSI (rest := []) (As := [.long u1.1.toInt64, .long (1 : Int64), .long (7 : Int64)]) (wr := [(a_this, .inr (8, [.int g_length, .ref a_text, .ref a_now, .ref a_before, .int g_undoMany, .ref a_read, .int g_spot, .ref a_first, .ref a_second, .ref a_sums, .ref a_other, .int g_step, .int g_coverMany, .ref a_grid, .ref a_order, .int g_leastSums, .int g_leastPart])), (a_now, .inl (cZ, 164, .inl g_now)), (a_first, .inl (cI, 41, .inl u1.2)), (a_second, .inl (cI, 41, .inl u2.2))]) (wo := [(a_this, .inr (8, [.int g_length, .ref a_text, .ref a_now, .ref a_before, .int g_undoMany, .ref a_read, .int g_spot, .ref a_first, .ref a_second, .ref a_sums, .ref a_other, .int g_step, .int g_coverMany, .ref a_grid, .ref a_order, .int g_leastSums, .int g_leastPart])), (a_now, .inl (cZ, 164, .inl g_now)), (a_first, .inl (cI, 41, .inl u1.2)), (a_second, .inl (cI, 41, .inl u2.2))]) ⟨hx, hb, hml, hown, hts⟩ hN hP hD hS hA (cX8_in_ct l D cI cL cC cZ u1.1.toInt64 (1 : Int64) (7 : Int64) u4 hu4) z6 [] [0, 1, 2, 3] [0, 1, 2, 3] rfl (by decide) rfl (by decide) (by decide) rfl (by decide) rfl hl.1 rfl (Nat.le_of_ble_eq_true rfl) dX8_alikeMany_33 ⟨Nat.zero_le _, Nat.zero_le _⟩ (fun H locs hP hD hS => ?_)
    refine lv_if_ne (tgt := 44) hx hb dX8_alikeMany_36 (by decide) (fun c5 => ?_) (fun c5 => ?_)
    · have hf := br_neg c5 hf
      refine lv_iload_n hx hb dX8_alikeMany_44 rfl (lv_at hl 1 rfl) ?_
      have hE : (u1.1, u1.2, u2.2) = (r0, v_first, v_second) := Option.some.inj hf
      simp only [Prod.mk.injEq] at hE
      obtain ⟨rfl, rfl, rfl⟩ := hE
      exact rtI hx hb hr hlk hP hD hS dX8_alikeMany_45
    · have hf := br_pos c5 hf
      exact w39 g_now u1.2 u2.2 H locs ls hf hP hD hS (lv_sub hl [] rfl)
abbrev rmX8_alike : Room := { frames := 2, cells := 0, slots := 0, locals := 49 }
noncomputable def fX8_alike (q1 : Int32) (q2 : Int32) (g_now : Nat → Int32) (g_first : Nat → Int32) (g_second : Nat → Int32) (g_order : Nat → Int32) : Option (Int32 × (Nat → Int32) × (Nat → Int32) × (Nat → Int32)) := bd (fX8_isSlot q1) (fun u1 => br (u1 = 0) (some (((-1 : Int32), g_first, g_second, g_order))) (bd (fX8_isSlot q2) (fun u3 => br (u3 = 0) (some (((-1 : Int32), g_first, g_second, g_order))) (bd (fX8_alikeMany q1 q2 g_now g_first g_second) (fun u5 => br (u5.1 = (-2 : Int32)) (some (((-2 : Int32), u5.2.1, u5.2.2, g_order))) (bd (fX8_findPairing u5.1 u5.2.1 u5.2.2 g_order) (fun u7 => br (u7.1 = 0) (some (((0 : Int32), u5.2.1, u5.2.2, u7.2))) (some (((1 : Int32), u5.2.1, u5.2.2, u7.2))))))))))
set_option maxHeartbeats 4000000 in
set_option maxRecDepth 100000 in
theorem cX8_alike_ct (l : Launch) (D : va_G) (cI cL cC cZ : ClassId) (a_this a_text a_now a_before a_read a_first a_second a_sums a_other a_grid a_order : Nat) (g_length : Int32) (g_undoMany : Int32) (g_spot : Int32) (g_step : Int32) (g_coverMany : Int32) (g_leastSums : Int32) (g_leastPart : Int32) (g_now : Nat → Int32) (g_first : Nat → Int32) (g_second : Nat → Int32) (g_order : Nat → Int32) (q1 : Int32) (q2 : Int32) (r0 : Int32) (v_first : Nat → Int32) (v_second : Nat → Int32) (v_order : Nat → Int32) (hf : fX8_alike q1 q2 g_now g_first g_second g_order = some ((r0, v_first, v_second, v_order))) : CtI l yX8_alike wsX8_alike rmX8_alike D (tyz cI cL cC cZ) [.ref a_this, .int q1, .int q2] [(a_this, .inr (8, [.int g_length, .ref a_text, .ref a_now, .ref a_before, .int g_undoMany, .ref a_read, .int g_spot, .ref a_first, .ref a_second, .ref a_sums, .ref a_other, .int g_step, .int g_coverMany, .ref a_grid, .ref a_order, .int g_leastSums, .int g_leastPart])), (a_now, .inl (cZ, 164, .inl g_now)), (a_first, .inl (cI, 41, .inl g_first)), (a_second, .inl (cI, 41, .inl g_second)), (a_order, .inl (cI, 7, .inl g_order))] [(a_this, .inr (8, [.int g_length, .ref a_text, .ref a_now, .ref a_before, .int g_undoMany, .ref a_read, .int g_spot, .ref a_first, .ref a_second, .ref a_sums, .ref a_other, .int g_step, .int g_coverMany, .ref a_grid, .ref a_order, .int g_leastSums, .int g_leastPart])), (a_now, .inl (cZ, 164, .inl g_now)), (a_first, .inl (cI, 41, .inl v_first)), (a_second, .inl (cI, 41, .inl v_second)), (a_order, .inl (cI, 7, .inl v_order))] r0 := by
  refine CtI.make (cc := cX8_alike) (maxL := 4) (ty := .int) (by decide) rfl (Nat.le_of_ble_eq_true rfl) ?_
  intro p e s m below meth c A ls C0 hN hA hP hD hl
  obtain ⟨hx, hb, hr, hml, hown, hts, hlk⟩ := id C0
  have hown : s.vm.findClass RX8 = some m.cls := hown
  have hS : va_S A s.heap s.heap [] := va_S.rf
  have hP : va_P D vwCl [(a_this, .inr (8, [.int g_length, .ref a_text, .ref a_now, .ref a_before, .int g_undoMany, .ref a_read, .int g_spot, .ref a_first, .ref a_second, .ref a_sums, .ref a_other, .int g_step, .int g_coverMany, .ref a_grid, .ref a_order, .int g_leastSums, .int g_leastPart])), (a_now, .inl (cZ, 164, .inl g_now)), (a_first, .inl (cI, 41, .inl g_first)), (a_second, .inl (cI, 41, .inl g_second)), (a_order, .inl (cI, 7, .inl g_order))] s.heap := hP
  have hD : va_D A [(a_this, .inr (8, [.int g_length, .ref a_text, .ref a_now, .ref a_before, .int g_undoMany, .ref a_read, .int g_spot, .ref a_first, .ref a_second, .ref a_sums, .ref a_other, .int g_step, .int g_coverMany, .ref a_grid, .ref a_order, .int g_leastSums, .int g_leastPart])), (a_now, .inl (cZ, 164, .inl g_now)), (a_first, .inl (cI, 41, .inl g_first)), (a_second, .inl (cI, 41, .inl g_second)), (a_order, .inl (cI, 7, .inl g_order))] := hD
  have hl : lv_has ls 4 [(0, .ref a_this), (1, .int q1), (2, .int q2)] := hl
  have z1 := va_cwS (R := rmX8_alike) (rm := rmX8_isSlot) (mc := 0) (ms := 0) 1 hts gX8_alike_X8_isSlot rfl rfl rfl (by decide +kernel) ⟨Nat.le_of_ble_eq_true rfl, Nat.le_of_ble_eq_true rfl⟩
  have z2 := cwV (R := rmX8_alike) (rm := rmX8_alikeMany) (mc := 0) (ms := 0) 2 hts gX8_alike_X8_alikeMany rfl rfl rfl (by decide +kernel) ⟨Nat.le_of_ble_eq_true rfl, Nat.le_of_ble_eq_true rfl⟩
  have z3 := cwV (R := rmX8_alike) (rm := rmX8_findPairing) (mc := 0) (ms := 0) 1 hts gX8_alike_X8_findPairing rfl rfl rfl (by decide +kernel) ⟨Nat.le_of_ble_eq_true rfl, Nat.le_of_ble_eq_true rfl⟩
  unfold fX8_alike at hf
  obtain ⟨H, eH⟩ : ∃ z, z = s.heap := ⟨_, rfl⟩
  obtain ⟨locs, eL⟩ : ∃ z : List Loc, z = [] := ⟨_, rfl⟩
  have hP : va_P D vwCl [(a_this, .inr (8, [.int g_length, .ref a_text, .ref a_now, .ref a_before, .int g_undoMany, .ref a_read, .int g_spot, .ref a_first, .ref a_second, .ref a_sums, .ref a_other, .int g_step, .int g_coverMany, .ref a_grid, .ref a_order, .int g_leastSums, .int g_leastPart])), (a_now, .inl (cZ, 164, .inl g_now)), (a_first, .inl (cI, 41, .inl g_first)), (a_second, .inl (cI, 41, .inl g_second)), (a_order, .inl (cI, 7, .inl g_order))] H := by rw [eH]; exact hP
  have hS : va_S A s.heap H locs := by rw [eH, eL]; exact hS
  suffices hG : W p l e rmX8_alike s m ([.ref a_this, .int q1, .int q2] : List Value).toArray below meth c H locs 0 0 (MQ below (cQi D r0 A [(a_this, .inr (8, [.int g_length, .ref a_text, .ref a_now, .ref a_before, .int g_undoMany, .ref a_read, .int g_spot, .ref a_first, .ref a_second, .ref a_sums, .ref a_other, .int g_step, .int g_coverMany, .ref a_grid, .ref a_order, .int g_leastSums, .int g_leastPart])), (a_now, .inl (cZ, 164, .inl g_now)), (a_first, .inl (cI, 41, .inl v_first)), (a_second, .inl (cI, 41, .inl v_second)), (a_order, .inl (cI, 7, .inl v_order))]) ([.ref a_this, .int q1, .int q2] : List Value).toArray s 0 0 A) (F0 m 0 ls []) by rw [eH, eL] at hG; exact hG
  refine lv_iload_n hx hb dX8_alike_0 rfl (lv_at hl 1 rfl) ?_
  obtain ⟨u1, hu1, hf⟩ := bd_some hf
  refine caSI (rest := []) (As := [.int q1]) (wr := [(a_this, .inr (8, [.int g_length, .ref a_text, .ref a_now, .ref a_before, .int g_undoMany, .ref a_read, .int g_spot, .ref a_first, .ref a_second, .ref a_sums, .ref a_other, .int g_step, .int g_coverMany, .ref a_grid, .ref a_order, .int g_leastSums, .int g_leastPart])), (a_now, .inl (cZ, 164, .inl g_now)), (a_first, .inl (cI, 41, .inl g_first)), (a_second, .inl (cI, 41, .inl g_second)), (a_order, .inl (cI, 7, .inl g_order))]) (wo := [(a_this, .inr (8, [.int g_length, .ref a_text, .ref a_now, .ref a_before, .int g_undoMany, .ref a_read, .int g_spot, .ref a_first, .ref a_second, .ref a_sums, .ref a_other, .int g_step, .int g_coverMany, .ref a_grid, .ref a_order, .int g_leastSums, .int g_leastPart])), (a_now, .inl (cZ, 164, .inl g_now)), (a_first, .inl (cI, 41, .inl g_first)), (a_second, .inl (cI, 41, .inl g_second)), (a_order, .inl (cI, 7, .inl g_order))]) ⟨hx, hb, hml, hown, hts⟩ hN hP hD hS hA (cX8_isSlot_ct l D cI cL cC cZ q1 u1 hu1) z1 [] [0, 1, 2, 3, 4] [0, 1, 2, 3, 4] rfl (by decide) rfl (by decide) (by decide) rfl (by decide) rfl hl.1 rfl (Nat.le_of_ble_eq_true rfl) dX8_alike_1 ⟨Nat.zero_le _, Nat.zero_le _⟩ (fun H locs hP hD hS => ?_)
  refine lv_if_eq (tgt := 14) hx hb dX8_alike_4 (by decide) (fun c2 => ?_) (fun c2 => ?_)
  · have hf := br_pos c2 hf
    refine lv_iconst (v := -1) hx hb dX8_alike_14 (by decide) ?_
    have hE : ((-1 : Int32), g_first, g_second, g_order) = (r0, v_first, v_second, v_order) := Option.some.inj hf
    simp only [Prod.mk.injEq] at hE
    obtain ⟨rfl, rfl, rfl, rfl⟩ := hE
    exact rtI hx hb hr hlk hP hD hS dX8_alike_15
  · have hf := br_neg c2 hf
    refine lv_iload_n hx hb dX8_alike_7 rfl (lv_at hl 2 rfl) ?_
    obtain ⟨u3, hu3, hf⟩ := bd_some hf
    refine caSI (rest := []) (As := [.int q2]) (wr := [(a_this, .inr (8, [.int g_length, .ref a_text, .ref a_now, .ref a_before, .int g_undoMany, .ref a_read, .int g_spot, .ref a_first, .ref a_second, .ref a_sums, .ref a_other, .int g_step, .int g_coverMany, .ref a_grid, .ref a_order, .int g_leastSums, .int g_leastPart])), (a_now, .inl (cZ, 164, .inl g_now)), (a_first, .inl (cI, 41, .inl g_first)), (a_second, .inl (cI, 41, .inl g_second)), (a_order, .inl (cI, 7, .inl g_order))]) (wo := [(a_this, .inr (8, [.int g_length, .ref a_text, .ref a_now, .ref a_before, .int g_undoMany, .ref a_read, .int g_spot, .ref a_first, .ref a_second, .ref a_sums, .ref a_other, .int g_step, .int g_coverMany, .ref a_grid, .ref a_order, .int g_leastSums, .int g_leastPart])), (a_now, .inl (cZ, 164, .inl g_now)), (a_first, .inl (cI, 41, .inl g_first)), (a_second, .inl (cI, 41, .inl g_second)), (a_order, .inl (cI, 7, .inl g_order))]) ⟨hx, hb, hml, hown, hts⟩ hN hP hD hS hA (cX8_isSlot_ct l D cI cL cC cZ q2 u3 hu3) z1 [] [0, 1, 2, 3, 4] [0, 1, 2, 3, 4] rfl (by decide) rfl (by decide) (by decide) rfl (by decide) rfl hl.1 rfl (Nat.le_of_ble_eq_true rfl) dX8_alike_8 ⟨Nat.zero_le _, Nat.zero_le _⟩ (fun H locs hP hD hS => ?_)
    refine lv_if_ne (tgt := 16) hx hb dX8_alike_11 (by decide) (fun c4 => ?_) (fun c4 => ?_)
    · have hf := br_neg c4 hf
      refine lv_aload_n hx hb dX8_alike_16 rfl (lv_at hl 0 rfl) ?_
      refine lv_iload_n hx hb dX8_alike_17 rfl (lv_at hl 1 rfl) ?_
      refine lv_iload_n hx hb dX8_alike_18 rfl (lv_at hl 2 rfl) ?_
      obtain ⟨u5, hu5, hf⟩ := bd_some hf
      refine caVI (rest := []) (As := [.int q1, .int q2]) (wr := [(a_order, .inl (cI, 7, .inl g_order))]) (wo := [(a_this, .inr (8, [.int g_length, .ref a_text, .ref a_now, .ref a_before, .int g_undoMany, .ref a_read, .int g_spot, .ref a_first, .ref a_second, .ref a_sums, .ref a_other, .int g_step, .int g_coverMany, .ref a_grid, .ref a_order, .int g_leastSums, .int g_leastPart])), (a_now, .inl (cZ, 164, .inl g_now)), (a_first, .inl (cI, 41, .inl u5.2.1)), (a_second, .inl (cI, 41, .inl u5.2.2)), (a_order, .inl (cI, 7, .inl g_order))]) ⟨hx, hb, hml, hown, hts⟩ hN hP hD hS hA (cX8_alikeMany_ct l D cI cL cC cZ a_this a_text a_now a_before a_read a_first a_second a_sums a_other a_grid a_order g_length g_undoMany g_spot g_step g_coverMany g_leastSums g_leastPart g_now g_first g_second q1 q2 u5.1 u5.2.1 u5.2.2 hu5) z2 0 8 rfl rfl [0, 1, 2, 3] [4] [1, 2, 3, 4, 0] rfl (by decide) rfl (by decide) (by decide) rfl (by decide) rfl hl.1 rfl (Nat.le_of_ble_eq_true rfl) dX8_alike_19 ⟨Nat.zero_le _, Nat.zero_le _⟩ (fun H locs hP hD hS => ?_)
      refine lv_istore_n (lv' := [(3, .int u5.1), (0, .ref a_this), (1, .int q1), (2, .int q2)]) hx hb dX8_alike_22 rfl hl (by decide) rfl (fun ls hl => ?_)
      refine lv_iload_n hx hb dX8_alike_23 rfl (lv_at hl 0 rfl) ?_
      refine lv_bipush (v := -2) hx hb dX8_alike_24 (by decide) ?_
      refine lv_icmp_ne (tgt := 34) hx hb dX8_alike_26 (by decide) (fun c6 => ?_) (fun c6 => ?_)
      · have hf := br_neg c6 hf
        refine lv_aload_n hx hb dX8_alike_34 rfl (lv_at hl 1 rfl) ?_
        refine lv_iload_n hx hb dX8_alike_35 rfl (lv_at hl 0 rfl) ?_
        obtain ⟨u7, hu7, hf⟩ := bd_some hf
        refine caVI (rest := []) (As := [.int u5.1]) (wr := [(a_now, .inl (cZ, 164, .inl g_now))]) (wo := [(a_this, .inr (8, [.int g_length, .ref a_text, .ref a_now, .ref a_before, .int g_undoMany, .ref a_read, .int g_spot, .ref a_first, .ref a_second, .ref a_sums, .ref a_other, .int g_step, .int g_coverMany, .ref a_grid, .ref a_order, .int g_leastSums, .int g_leastPart])), (a_now, .inl (cZ, 164, .inl g_now)), (a_first, .inl (cI, 41, .inl u5.2.1)), (a_second, .inl (cI, 41, .inl u5.2.2)), (a_order, .inl (cI, 7, .inl u7.2))]) ⟨hx, hb, hml, hown, hts⟩ hN hP hD hS hA (cX8_findPairing_ct l D cI cL cC cZ a_this a_text a_now a_before a_read a_first a_second a_sums a_other a_grid a_order g_length g_undoMany g_spot g_step g_coverMany g_leastSums g_leastPart u5.2.1 u5.2.2 g_order u5.1 u7.1 u7.2 hu7) z3 0 8 rfl rfl [0, 2, 3, 4] [1] [1, 0, 2, 3, 4] rfl (by decide) rfl (by decide) (by decide) rfl (by decide) rfl hl.1 rfl (Nat.le_of_ble_eq_true rfl) dX8_alike_36 ⟨Nat.zero_le _, Nat.zero_le _⟩ (fun H locs hP hD hS => ?_)
        refine lv_if_eq (tgt := 46) hx hb dX8_alike_39 (by decide) (fun c8 => ?_) (fun c8 => ?_)
        · have hf := br_pos c8 hf
          refine lv_iconst (v := 0) hx hb dX8_alike_46 (by decide) ?_
          have hE : ((0 : Int32), u5.2.1, u5.2.2, u7.2) = (r0, v_first, v_second, v_order) := Option.some.inj hf
          simp only [Prod.mk.injEq] at hE
          obtain ⟨rfl, rfl, rfl, rfl⟩ := hE
          exact rtI hx hb hr hlk hP hD hS dX8_alike_47
        · have hf := br_neg c8 hf
          refine lv_iconst (v := 1) hx hb dX8_alike_42 (by decide) ?_
          refine lv_goto (tgt := 47) hx hb dX8_alike_43 (by decide) ?_
          have hE : ((1 : Int32), u5.2.1, u5.2.2, u7.2) = (r0, v_first, v_second, v_order) := Option.some.inj hf
          simp only [Prod.mk.injEq] at hE
          obtain ⟨rfl, rfl, rfl, rfl⟩ := hE
          exact rtI hx hb hr hlk hP hD hS dX8_alike_47
      · have hf := br_pos c6 hf
        refine lv_bipush (v := -2) hx hb dX8_alike_29 (by decide) ?_
        refine lv_goto (tgt := 47) hx hb dX8_alike_31 (by decide) ?_
        have hE : ((-2 : Int32), u5.2.1, u5.2.2, g_order) = (r0, v_first, v_second, v_order) := Option.some.inj hf
        simp only [Prod.mk.injEq] at hE
        obtain ⟨rfl, rfl, rfl, rfl⟩ := hE
        exact rtI hx hb hr hlk hP hD hS dX8_alike_47
    · have hf := br_pos c4 hf
      refine lv_iconst (v := -1) hx hb dX8_alike_14 (by decide) ?_
      have hE : ((-1 : Int32), g_first, g_second, g_order) = (r0, v_first, v_second, v_order) := Option.some.inj hf
      simp only [Prod.mk.injEq] at hE
      obtain ⟨rfl, rfl, rfl, rfl⟩ := hE
      exact rtI hx hb hr hlk hP hD hS dX8_alike_15
abbrev rmX8_partner : Room := { frames := 2, cells := 0, slots := 0, locals := 49 }
noncomputable def bX8_partner_67 (g_now : Nat → Int32) (g_first : Nat → Int32) (g_second : Nat → Int32) (g_order : Nat → Int32) : Option (Int32 × (Nat → Int32) × (Nat → Int32) × (Nat → Int32)) := some (((-4 : Int32), g_first, g_second, g_order))
noncomputable def fX8_partner (q1 : Int32) (q2 : Int32) (q3 : Int32) (g_now : Nat → Int32) (g_first : Nat → Int32) (g_second : Nat → Int32) (g_order : Nat → Int32) : Option (Int32 × (Nat → Int32) × (Nat → Int32) × (Nat → Int32)) := bd (fX8_isSlot q1) (fun u1 => br (u1 = 0) (some (((-1 : Int32), g_first, g_second, g_order))) (bd (fX8_isSlot q2) (fun u3 => br (u3 = 0) (some (((-1 : Int32), g_first, g_second, g_order))) (br (0 ≤ q3) (bd (fX8_alikeMany q1 q2 g_now g_first g_second) (fun u6 => br (u6.1 = (-2 : Int32)) (some (((-2 : Int32), u6.2.1, u6.2.2, g_order))) (br (u6.1 ≤ q3) (bX8_partner_67 g_now u6.2.1 u6.2.2 g_order) (bd (fX8_findPairing u6.1 u6.2.1 u6.2.2 g_order) (fun u9 => br (u9.1 = 0) (bX8_partner_67 g_now u6.2.1 u6.2.2 u9.2) (gd (¬ q3 < 0 ∧ q3.toNatClampNeg < 7) (gd (¬ (u9.2 q3.toNatClampNeg) < 0 ∧ (u9.2 q3.toNatClampNeg).toNatClampNeg < 41) (some ((u6.2.2 (u9.2 q3.toNatClampNeg).toNatClampNeg, u6.2.1, u6.2.2, u9.2)))))))))) (some (((-1 : Int32), g_first, g_second, g_order)))))))
set_option maxHeartbeats 4000000 in
set_option maxRecDepth 100000 in
theorem cX8_partner_ct (l : Launch) (D : va_G) (cI cL cC cZ : ClassId) (a_this a_text a_now a_before a_read a_first a_second a_sums a_other a_grid a_order : Nat) (g_length : Int32) (g_undoMany : Int32) (g_spot : Int32) (g_step : Int32) (g_coverMany : Int32) (g_leastSums : Int32) (g_leastPart : Int32) (g_now : Nat → Int32) (g_first : Nat → Int32) (g_second : Nat → Int32) (g_order : Nat → Int32) (q1 : Int32) (q2 : Int32) (q3 : Int32) (r0 : Int32) (v_first : Nat → Int32) (v_second : Nat → Int32) (v_order : Nat → Int32) (hf : fX8_partner q1 q2 q3 g_now g_first g_second g_order = some ((r0, v_first, v_second, v_order))) : CtI l yX8_partner wsX8_partner rmX8_partner D (tyz cI cL cC cZ) [.ref a_this, .int q1, .int q2, .int q3] [(a_this, .inr (8, [.int g_length, .ref a_text, .ref a_now, .ref a_before, .int g_undoMany, .ref a_read, .int g_spot, .ref a_first, .ref a_second, .ref a_sums, .ref a_other, .int g_step, .int g_coverMany, .ref a_grid, .ref a_order, .int g_leastSums, .int g_leastPart])), (a_now, .inl (cZ, 164, .inl g_now)), (a_first, .inl (cI, 41, .inl g_first)), (a_second, .inl (cI, 41, .inl g_second)), (a_order, .inl (cI, 7, .inl g_order))] [(a_this, .inr (8, [.int g_length, .ref a_text, .ref a_now, .ref a_before, .int g_undoMany, .ref a_read, .int g_spot, .ref a_first, .ref a_second, .ref a_sums, .ref a_other, .int g_step, .int g_coverMany, .ref a_grid, .ref a_order, .int g_leastSums, .int g_leastPart])), (a_now, .inl (cZ, 164, .inl g_now)), (a_first, .inl (cI, 41, .inl v_first)), (a_second, .inl (cI, 41, .inl v_second)), (a_order, .inl (cI, 7, .inl v_order))] r0 := by
  refine CtI.make (cc := cX8_partner) (maxL := 5) (ty := .int) (by decide) rfl (Nat.le_of_ble_eq_true rfl) ?_
  intro p e s m below meth c A ls C0 hN hA hP hD hl
  obtain ⟨hx, hb, hr, hml, hown, hts, hlk⟩ := id C0
  have hown : s.vm.findClass RX8 = some m.cls := hown
  have hS : va_S A s.heap s.heap [] := va_S.rf
  have hP : va_P D vwCl [(a_this, .inr (8, [.int g_length, .ref a_text, .ref a_now, .ref a_before, .int g_undoMany, .ref a_read, .int g_spot, .ref a_first, .ref a_second, .ref a_sums, .ref a_other, .int g_step, .int g_coverMany, .ref a_grid, .ref a_order, .int g_leastSums, .int g_leastPart])), (a_now, .inl (cZ, 164, .inl g_now)), (a_first, .inl (cI, 41, .inl g_first)), (a_second, .inl (cI, 41, .inl g_second)), (a_order, .inl (cI, 7, .inl g_order))] s.heap := hP
  have hD : va_D A [(a_this, .inr (8, [.int g_length, .ref a_text, .ref a_now, .ref a_before, .int g_undoMany, .ref a_read, .int g_spot, .ref a_first, .ref a_second, .ref a_sums, .ref a_other, .int g_step, .int g_coverMany, .ref a_grid, .ref a_order, .int g_leastSums, .int g_leastPart])), (a_now, .inl (cZ, 164, .inl g_now)), (a_first, .inl (cI, 41, .inl g_first)), (a_second, .inl (cI, 41, .inl g_second)), (a_order, .inl (cI, 7, .inl g_order))] := hD
  have hl : lv_has ls 5 [(0, .ref a_this), (1, .int q1), (2, .int q2), (3, .int q3)] := hl
  have z1 := va_cwS (R := rmX8_partner) (rm := rmX8_isSlot) (mc := 0) (ms := 0) 1 hts gX8_partner_X8_isSlot rfl rfl rfl (by decide +kernel) ⟨Nat.le_of_ble_eq_true rfl, Nat.le_of_ble_eq_true rfl⟩
  have z2 := cwV (R := rmX8_partner) (rm := rmX8_alikeMany) (mc := 0) (ms := 0) 2 hts gX8_partner_X8_alikeMany rfl rfl rfl (by decide +kernel) ⟨Nat.le_of_ble_eq_true rfl, Nat.le_of_ble_eq_true rfl⟩
  have z3 := cwV (R := rmX8_partner) (rm := rmX8_findPairing) (mc := 0) (ms := 0) 1 hts gX8_partner_X8_findPairing rfl rfl rfl (by decide +kernel) ⟨Nat.le_of_ble_eq_true rfl, Nat.le_of_ble_eq_true rfl⟩
  have z4 : ∀ w ∈ u_ws RX8 TX8 17, w ∈ wsX8_partner := by decide +kernel
  have z5 := hts (.fieldLink RX8 26 "LittleSumsModel" "second" "[I") (by decide +kernel)
  have z6 := hts (.fieldLink RX8 38 "LittleSumsModel" "order" "[I") (by decide +kernel)
  have w67 : ∀ (g_now : Nat → Int32) (g_first : Nat → Int32) (g_second : Nat → Int32) (g_order : Nat → Int32) (H : Heap) (locs : List Loc) (ls : Array Slot), bX8_partner_67 g_now g_first g_second g_order = some ((r0, v_first, v_second, v_order)) → va_P D vwCl [(a_this, .inr (8, [.int g_length, .ref a_text, .ref a_now, .ref a_before, .int g_undoMany, .ref a_read, .int g_spot, .ref a_first, .ref a_second, .ref a_sums, .ref a_other, .int g_step, .int g_coverMany, .ref a_grid, .ref a_order, .int g_leastSums, .int g_leastPart])), (a_now, .inl (cZ, 164, .inl g_now)), (a_first, .inl (cI, 41, .inl g_first)), (a_second, .inl (cI, 41, .inl g_second)), (a_order, .inl (cI, 7, .inl g_order))] H → va_D A [(a_this, .inr (8, [.int g_length, .ref a_text, .ref a_now, .ref a_before, .int g_undoMany, .ref a_read, .int g_spot, .ref a_first, .ref a_second, .ref a_sums, .ref a_other, .int g_step, .int g_coverMany, .ref a_grid, .ref a_order, .int g_leastSums, .int g_leastPart])), (a_now, .inl (cZ, 164, .inl g_now)), (a_first, .inl (cI, 41, .inl g_first)), (a_second, .inl (cI, 41, .inl g_second)), (a_order, .inl (cI, 7, .inl g_order))] → va_S A s.heap H locs → lv_has ls 5 [] → W p l e rmX8_partner s m ([.ref a_this, .int q1, .int q2, .int q3] : List Value).toArray below meth c H locs 0 0 (MQ below (cQi D r0 A [(a_this, .inr (8, [.int g_length, .ref a_text, .ref a_now, .ref a_before, .int g_undoMany, .ref a_read, .int g_spot, .ref a_first, .ref a_second, .ref a_sums, .ref a_other, .int g_step, .int g_coverMany, .ref a_grid, .ref a_order, .int g_leastSums, .int g_leastPart])), (a_now, .inl (cZ, 164, .inl g_now)), (a_first, .inl (cI, 41, .inl v_first)), (a_second, .inl (cI, 41, .inl v_second)), (a_order, .inl (cI, 7, .inl v_order))]) ([.ref a_this, .int q1, .int q2, .int q3] : List Value).toArray s 0 0 A) (F0 m 67 ls []) := by
    intro g_now g_first g_second g_order H locs ls hf hP hD hS hl
    unfold bX8_partner_67 at hf
    refine lv_bipush (v := -4) hx hb dX8_partner_67 (by decide) ?_
    have hE : ((-4 : Int32), g_first, g_second, g_order) = (r0, v_first, v_second, v_order) := Option.some.inj hf
    simp only [Prod.mk.injEq] at hE
    obtain ⟨rfl, rfl, rfl, rfl⟩ := hE
    exact rtI hx hb hr hlk hP hD hS dX8_partner_69
  unfold fX8_partner at hf
  obtain ⟨H, eH⟩ : ∃ z, z = s.heap := ⟨_, rfl⟩
  obtain ⟨locs, eL⟩ : ∃ z : List Loc, z = [] := ⟨_, rfl⟩
  have hP : va_P D vwCl [(a_this, .inr (8, [.int g_length, .ref a_text, .ref a_now, .ref a_before, .int g_undoMany, .ref a_read, .int g_spot, .ref a_first, .ref a_second, .ref a_sums, .ref a_other, .int g_step, .int g_coverMany, .ref a_grid, .ref a_order, .int g_leastSums, .int g_leastPart])), (a_now, .inl (cZ, 164, .inl g_now)), (a_first, .inl (cI, 41, .inl g_first)), (a_second, .inl (cI, 41, .inl g_second)), (a_order, .inl (cI, 7, .inl g_order))] H := by rw [eH]; exact hP
  have hS : va_S A s.heap H locs := by rw [eH, eL]; exact hS
  suffices hG : W p l e rmX8_partner s m ([.ref a_this, .int q1, .int q2, .int q3] : List Value).toArray below meth c H locs 0 0 (MQ below (cQi D r0 A [(a_this, .inr (8, [.int g_length, .ref a_text, .ref a_now, .ref a_before, .int g_undoMany, .ref a_read, .int g_spot, .ref a_first, .ref a_second, .ref a_sums, .ref a_other, .int g_step, .int g_coverMany, .ref a_grid, .ref a_order, .int g_leastSums, .int g_leastPart])), (a_now, .inl (cZ, 164, .inl g_now)), (a_first, .inl (cI, 41, .inl v_first)), (a_second, .inl (cI, 41, .inl v_second)), (a_order, .inl (cI, 7, .inl v_order))]) ([.ref a_this, .int q1, .int q2, .int q3] : List Value).toArray s 0 0 A) (F0 m 0 ls []) by rw [eH, eL] at hG; exact hG
  refine lv_iload_n hx hb dX8_partner_0 rfl (lv_at hl 1 rfl) ?_
  obtain ⟨u1, hu1, hf⟩ := bd_some hf
  refine caSI (rest := []) (As := [.int q1]) (wr := [(a_this, .inr (8, [.int g_length, .ref a_text, .ref a_now, .ref a_before, .int g_undoMany, .ref a_read, .int g_spot, .ref a_first, .ref a_second, .ref a_sums, .ref a_other, .int g_step, .int g_coverMany, .ref a_grid, .ref a_order, .int g_leastSums, .int g_leastPart])), (a_now, .inl (cZ, 164, .inl g_now)), (a_first, .inl (cI, 41, .inl g_first)), (a_second, .inl (cI, 41, .inl g_second)), (a_order, .inl (cI, 7, .inl g_order))]) (wo := [(a_this, .inr (8, [.int g_length, .ref a_text, .ref a_now, .ref a_before, .int g_undoMany, .ref a_read, .int g_spot, .ref a_first, .ref a_second, .ref a_sums, .ref a_other, .int g_step, .int g_coverMany, .ref a_grid, .ref a_order, .int g_leastSums, .int g_leastPart])), (a_now, .inl (cZ, 164, .inl g_now)), (a_first, .inl (cI, 41, .inl g_first)), (a_second, .inl (cI, 41, .inl g_second)), (a_order, .inl (cI, 7, .inl g_order))]) ⟨hx, hb, hml, hown, hts⟩ hN hP hD hS hA (cX8_isSlot_ct l D cI cL cC cZ q1 u1 hu1) z1 [] [0, 1, 2, 3, 4] [0, 1, 2, 3, 4] rfl (by decide) rfl (by decide) (by decide) rfl (by decide) rfl hl.1 rfl (Nat.le_of_ble_eq_true rfl) dX8_partner_1 ⟨Nat.zero_le _, Nat.zero_le _⟩ (fun H locs hP hD hS => ?_)
  refine lv_if_eq (tgt := 18) hx hb dX8_partner_4 (by decide) (fun c2 => ?_) (fun c2 => ?_)
  · have hf := br_pos c2 hf
    refine lv_iconst (v := -1) hx hb dX8_partner_18 (by decide) ?_
    have hE : ((-1 : Int32), g_first, g_second, g_order) = (r0, v_first, v_second, v_order) := Option.some.inj hf
    simp only [Prod.mk.injEq] at hE
    obtain ⟨rfl, rfl, rfl, rfl⟩ := hE
    exact rtI hx hb hr hlk hP hD hS dX8_partner_19
  · have hf := br_neg c2 hf
    refine lv_iload_n hx hb dX8_partner_7 rfl (lv_at hl 2 rfl) ?_
    obtain ⟨u3, hu3, hf⟩ := bd_some hf
    refine caSI (rest := []) (As := [.int q2]) (wr := [(a_this, .inr (8, [.int g_length, .ref a_text, .ref a_now, .ref a_before, .int g_undoMany, .ref a_read, .int g_spot, .ref a_first, .ref a_second, .ref a_sums, .ref a_other, .int g_step, .int g_coverMany, .ref a_grid, .ref a_order, .int g_leastSums, .int g_leastPart])), (a_now, .inl (cZ, 164, .inl g_now)), (a_first, .inl (cI, 41, .inl g_first)), (a_second, .inl (cI, 41, .inl g_second)), (a_order, .inl (cI, 7, .inl g_order))]) (wo := [(a_this, .inr (8, [.int g_length, .ref a_text, .ref a_now, .ref a_before, .int g_undoMany, .ref a_read, .int g_spot, .ref a_first, .ref a_second, .ref a_sums, .ref a_other, .int g_step, .int g_coverMany, .ref a_grid, .ref a_order, .int g_leastSums, .int g_leastPart])), (a_now, .inl (cZ, 164, .inl g_now)), (a_first, .inl (cI, 41, .inl g_first)), (a_second, .inl (cI, 41, .inl g_second)), (a_order, .inl (cI, 7, .inl g_order))]) ⟨hx, hb, hml, hown, hts⟩ hN hP hD hS hA (cX8_isSlot_ct l D cI cL cC cZ q2 u3 hu3) z1 [] [0, 1, 2, 3, 4] [0, 1, 2, 3, 4] rfl (by decide) rfl (by decide) (by decide) rfl (by decide) rfl hl.1 rfl (Nat.le_of_ble_eq_true rfl) dX8_partner_8 ⟨Nat.zero_le _, Nat.zero_le _⟩ (fun H locs hP hD hS => ?_)
    refine lv_if_eq (tgt := 18) hx hb dX8_partner_11 (by decide) (fun c4 => ?_) (fun c4 => ?_)
    · have hf := br_pos c4 hf
      refine lv_iconst (v := -1) hx hb dX8_partner_18 (by decide) ?_
      have hE : ((-1 : Int32), g_first, g_second, g_order) = (r0, v_first, v_second, v_order) := Option.some.inj hf
      simp only [Prod.mk.injEq] at hE
      obtain ⟨rfl, rfl, rfl, rfl⟩ := hE
      exact rtI hx hb hr hlk hP hD hS dX8_partner_19
    · have hf := br_neg c4 hf
      refine lv_iload_n hx hb dX8_partner_14 rfl (lv_at hl 3 rfl) ?_
      refine lv_if_ge (tgt := 20) hx hb dX8_partner_15 (by decide) (fun c5 => ?_) (fun c5 => ?_)
      · have hf := br_pos c5 hf
        refine lv_aload_n hx hb dX8_partner_20 rfl (lv_at hl 0 rfl) ?_
        refine lv_iload_n hx hb dX8_partner_21 rfl (lv_at hl 1 rfl) ?_
        refine lv_iload_n hx hb dX8_partner_22 rfl (lv_at hl 2 rfl) ?_
        obtain ⟨u6, hu6, hf⟩ := bd_some hf
        refine caVI (rest := []) (As := [.int q1, .int q2]) (wr := [(a_order, .inl (cI, 7, .inl g_order))]) (wo := [(a_this, .inr (8, [.int g_length, .ref a_text, .ref a_now, .ref a_before, .int g_undoMany, .ref a_read, .int g_spot, .ref a_first, .ref a_second, .ref a_sums, .ref a_other, .int g_step, .int g_coverMany, .ref a_grid, .ref a_order, .int g_leastSums, .int g_leastPart])), (a_now, .inl (cZ, 164, .inl g_now)), (a_first, .inl (cI, 41, .inl u6.2.1)), (a_second, .inl (cI, 41, .inl u6.2.2)), (a_order, .inl (cI, 7, .inl g_order))]) ⟨hx, hb, hml, hown, hts⟩ hN hP hD hS hA (cX8_alikeMany_ct l D cI cL cC cZ a_this a_text a_now a_before a_read a_first a_second a_sums a_other a_grid a_order g_length g_undoMany g_spot g_step g_coverMany g_leastSums g_leastPart g_now g_first g_second q1 q2 u6.1 u6.2.1 u6.2.2 hu6) z2 0 8 rfl rfl [0, 1, 2, 3] [4] [1, 2, 3, 4, 0] rfl (by decide) rfl (by decide) (by decide) rfl (by decide) rfl hl.1 rfl (Nat.le_of_ble_eq_true rfl) dX8_partner_23 ⟨Nat.zero_le _, Nat.zero_le _⟩ (fun H locs hP hD hS => ?_)
        refine lv_istore (lv' := [(4, .int u6.1), (0, .ref a_this), (1, .int q1), (2, .int q2), (3, .int q3)]) hx hb dX8_partner_26 hl (by decide) rfl (fun ls hl => ?_)
        refine lv_iload hx hb dX8_partner_28 (lv_at hl 0 rfl) ?_
        refine lv_bipush (v := -2) hx hb dX8_partner_30 (by decide) ?_
        refine lv_icmp_ne (tgt := 38) hx hb dX8_partner_32 (by decide) (fun c7 => ?_) (fun c7 => ?_)
        · have hf := br_neg c7 hf
          refine lv_iload_n hx hb dX8_partner_38 rfl (lv_at hl 4 rfl) ?_
          refine lv_iload hx hb dX8_partner_39 (lv_at hl 0 rfl) ?_
          refine lv_icmp_ge (tgt := 67) hx hb dX8_partner_41 (by decide) (fun c8 => ?_) (fun c8 => ?_)
          · have hf := br_pos c8 hf
            exact w67 g_now u6.2.1 u6.2.2 g_order H locs ls hf hP hD hS (lv_sub hl [] rfl)
          · have hf := br_neg c8 hf
            refine lv_aload_n hx hb dX8_partner_44 rfl (lv_at hl 1 rfl) ?_
            refine lv_iload hx hb dX8_partner_45 (lv_at hl 0 rfl) ?_
            obtain ⟨u9, hu9, hf⟩ := bd_some hf
            refine caVI (rest := []) (As := [.int u6.1]) (wr := [(a_now, .inl (cZ, 164, .inl g_now))]) (wo := [(a_this, .inr (8, [.int g_length, .ref a_text, .ref a_now, .ref a_before, .int g_undoMany, .ref a_read, .int g_spot, .ref a_first, .ref a_second, .ref a_sums, .ref a_other, .int g_step, .int g_coverMany, .ref a_grid, .ref a_order, .int g_leastSums, .int g_leastPart])), (a_now, .inl (cZ, 164, .inl g_now)), (a_first, .inl (cI, 41, .inl u6.2.1)), (a_second, .inl (cI, 41, .inl u6.2.2)), (a_order, .inl (cI, 7, .inl u9.2))]) ⟨hx, hb, hml, hown, hts⟩ hN hP hD hS hA (cX8_findPairing_ct l D cI cL cC cZ a_this a_text a_now a_before a_read a_first a_second a_sums a_other a_grid a_order g_length g_undoMany g_spot g_step g_coverMany g_leastSums g_leastPart u6.2.1 u6.2.2 g_order u6.1 u9.1 u9.2 hu9) z3 0 8 rfl rfl [0, 2, 3, 4] [1] [1, 0, 2, 3, 4] rfl (by decide) rfl (by decide) (by decide) rfl (by decide) rfl hl.1 rfl (Nat.le_of_ble_eq_true rfl) dX8_partner_47 ⟨Nat.zero_le _, Nat.zero_le _⟩ (fun H locs hP hD hS => ?_)
            refine lv_if_eq (tgt := 67) hx hb dX8_partner_50 (by decide) (fun c10 => ?_) (fun c10 => ?_)
            · have hf := br_pos c10 hf
              exact w67 g_now u6.2.1 u6.2.2 u9.2 H locs ls hf hP hD hS (lv_sub hl [] rfl)
            · have hf := br_neg c10 hf
              refine lv_aload_n hx hb dX8_partner_53 rfl (lv_at hl 1 rfl) ?_
              refine va_get (D := D) (ci := 8) (v := .ref a_second) (C := RX8) (T := TX8) (N := 17) hx hb hts z4 hown hN.1 hP 0 rfl rfl 8 (by decide) z5 (fun _ h9 => h9) rfl dX8_partner_54 ?_
              refine lv_aload_n hx hb dX8_partner_57 rfl (lv_at hl 1 rfl) ?_
              refine va_get (D := D) (ci := 8) (v := .ref a_order) (C := RX8) (T := TX8) (N := 17) hx hb hts z4 hown hN.1 hP 0 rfl rfl 14 (by decide) z6 (fun _ h9 => h9) rfl dX8_partner_58 ?_
              refine lv_iload_n hx hb dX8_partner_61 rfl (lv_at hl 4 rfl) ?_
              obtain ⟨c11, hf⟩ := gd_some hf
              refine va_iald hx hb hN.1 hP 4 0 rfl rfl (ix_in c11) dX8_partner_62 ?_
              obtain ⟨c12, hf⟩ := gd_some hf
              refine va_iald hx hb hN.1 hP 3 0 rfl rfl (ix_in c12) dX8_partner_63 ?_
              refine lv_goto (tgt := 69) hx hb dX8_partner_64 (by decide) ?_
              have hE : (u6.2.2 (u9.2 q3.toNatClampNeg).toNatClampNeg, u6.2.1, u6.2.2, u9.2) = (r0, v_first, v_second, v_order) := Option.some.inj hf
              simp only [Prod.mk.injEq] at hE
              obtain ⟨rfl, rfl, rfl, rfl⟩ := hE
              exact rtI hx hb hr hlk hP hD hS dX8_partner_69
        · have hf := br_pos c7 hf
          refine lv_bipush (v := -2) hx hb dX8_partner_35 (by decide) ?_
          have hE : ((-2 : Int32), u6.2.1, u6.2.2, g_order) = (r0, v_first, v_second, v_order) := Option.some.inj hf
          simp only [Prod.mk.injEq] at hE
          obtain ⟨rfl, rfl, rfl, rfl⟩ := hE
          exact rtI hx hb hr hlk hP hD hS dX8_partner_37
      · have hf := br_neg c5 hf
        refine lv_iconst (v := -1) hx hb dX8_partner_18 (by decide) ?_
        have hE : ((-1 : Int32), g_first, g_second, g_order) = (r0, v_first, v_second, v_order) := Option.some.inj hf
        simp only [Prod.mk.injEq] at hE
        obtain ⟨rfl, rfl, rfl, rfl⟩ := hE
        exact rtI hx hb hr hlk hP hD hS dX8_partner_19
abbrev rmX8_partSums : Room := { frames := 0, cells := 0, slots := 0, locals := 0 }
noncomputable def bX8_partSums_115 (x1 : Int32) (x2 : Int32) (x3 : Int32) (x4 : Int32) (x5 : Int32) (g_first : Nat → Int32) (g_second : Nat → Int32) (g_sums : Nat → Int32) : Option ((Int32 × Int32 × (Nat → Int32)) ⊕ (Int32 × (Nat → Int32))) := lt_ (x5 + (1 : Int32)) (fun y1 => some (Sum.inl ((x4, y1, g_sums))))
noncomputable def bX8_partSums_85 (x1 : Int32) (x2 : Int32) (x3 : Int32) (x5 : Int32) (x6 : Int32) (k0 : Int32) (k1 : Int32) (g_first : Nat → Int32) (g_second : Nat → Int32) (g_sums : Nat → Int32) : Option ((Int32 × Int32 × (Nat → Int32)) ⊕ ((Int32 × Int32 × (Nat → Int32)) ⊕ (Int32 × (Nat → Int32)))) := lt_ (k0 + k1) (fun y2 => gd (¬ x5 < 0 ∧ x5.toNatClampNeg < 41) (gd (¬ x6 < 0 ∧ x6.toNatClampNeg < 41) (gd (¬ ((g_first x5.toNatClampNeg) + (g_second x6.toNatClampNeg)) < 0 ∧ ((g_first x5.toNatClampNeg) + (g_second x6.toNatClampNeg)).toNatClampNeg < 241) (lt_ (upd g_sums ((g_first x5.toNatClampNeg) + (g_second x6.toNatClampNeg)).toNatClampNeg (vp_nar .boolean (1 : Int32))) (fun y6 => lt_ (x6 + (1 : Int32)) (fun y7 => some (Sum.inl ((y2, y7, y6)))))))))
noncomputable def bX8_partSums_39 (x1 : Int32) (x2 : Int32) (x3 : Int32) (x5 : Int32) (g_first : Nat → Int32) (g_second : Nat → Int32) (x4 : Int32) (x6 : Int32) (g_sums : Nat → Int32) : Option ((Int32 × Int32 × (Nat → Int32)) ⊕ ((Int32 × Int32 × (Nat → Int32)) ⊕ (Int32 × (Nat → Int32)))) := br (x3 ≤ x6) (ml (bX8_partSums_115 x1 x2 x3 x4 x5 g_first g_second g_sums)) (br (((x1 >>> (x5 &&& 31)) &&& (1 : Int32)) = (1 : Int32)) (gd (¬ x5 < 0 ∧ x5.toNatClampNeg < 41) (gd (¬ x6 < 0 ∧ x6.toNatClampNeg < 41) (gd (¬ ((g_first x5.toNatClampNeg) + (g_second x6.toNatClampNeg)) < 0 ∧ ((g_first x5.toNatClampNeg) + (g_second x6.toNatClampNeg)).toNatClampNeg < 241) (br ((g_sums ((g_first x5.toNatClampNeg) + (g_second x6.toNatClampNeg)).toNatClampNeg) = 0) (bX8_partSums_85 x1 x2 x3 x5 x6 x4 (1 : Int32) g_first g_second g_sums) (bX8_partSums_85 x1 x2 x3 x5 x6 x4 (0 : Int32) g_first g_second g_sums))))) (ml (bX8_partSums_115 x1 x2 x3 x4 x5 g_first g_second g_sums)))
noncomputable def sX8_partSums_39 (x1 : Int32) (x2 : Int32) (x3 : Int32) (x5 : Int32) (g_first : Nat → Int32) (g_second : Nat → Int32) : (Int32 × Int32 × (Nat → Int32)) → Option ((Int32 × Int32 × (Nat → Int32)) ⊕ ((Int32 × Int32 × (Nat → Int32)) ⊕ (Int32 × (Nat → Int32)))) := fun q => bX8_partSums_39 x1 x2 x3 x5 g_first g_second q.1 q.2.1 q.2.2
noncomputable def bX8_partSums_30 (x1 : Int32) (x2 : Int32) (x3 : Int32) (g_first : Nat → Int32) (g_second : Nat → Int32) (x4 : Int32) (x5 : Int32) (g_sums : Nat → Int32) : Option ((Int32 × Int32 × (Nat → Int32)) ⊕ (Int32 × (Nat → Int32))) := br (x2 ≤ x5) (some (Sum.inr ((x4, g_sums)))) (run (sX8_partSums_39 x1 x2 x3 x5 g_first g_second) ((x4, (0 : Int32), g_sums)))
noncomputable def sX8_partSums_30 (x1 : Int32) (x2 : Int32) (x3 : Int32) (g_first : Nat → Int32) (g_second : Nat → Int32) : (Int32 × Int32 × (Nat → Int32)) → Option ((Int32 × Int32 × (Nat → Int32)) ⊕ (Int32 × (Nat → Int32))) := fun q => bX8_partSums_30 x1 x2 x3 g_first g_second q.1 q.2.1 q.2.2
noncomputable def bX8_partSums_3 (x1 : Int32) (x2 : Int32) (x3 : Int32) (g_first : Nat → Int32) (g_second : Nat → Int32) (x4 : Int32) (g_sums : Nat → Int32) : Option ((Int32 × (Nat → Int32)) ⊕ (Int32 × (Nat → Int32))) := br ((81 : Int32) ≤ x4) (ml (run (sX8_partSums_30 x1 x2 x3 g_first g_second) (((0 : Int32), (0 : Int32), g_sums)))) (gd (¬ x4 < 0 ∧ x4.toNatClampNeg < 241) (lt_ (upd g_sums x4.toNatClampNeg (vp_nar .boolean (0 : Int32))) (fun y20 => lt_ (x4 + (1 : Int32)) (fun y21 => some (Sum.inl ((y21, y20)))))))
noncomputable def sX8_partSums_3 (x1 : Int32) (x2 : Int32) (x3 : Int32) (g_first : Nat → Int32) (g_second : Nat → Int32) : (Int32 × (Nat → Int32)) → Option ((Int32 × (Nat → Int32)) ⊕ (Int32 × (Nat → Int32))) := fun q => bX8_partSums_3 x1 x2 x3 g_first g_second q.1 q.2
noncomputable def fX8_partSums (q1 : Int32) (q2 : Int32) (q3 : Int32) (g_first : Nat → Int32) (g_second : Nat → Int32) (g_sums : Nat → Int32) : Option (Int32 × (Nat → Int32)) := run (sX8_partSums_3 q1 q2 q3 g_first g_second) (((0 : Int32), g_sums))
set_option maxHeartbeats 4000000 in
set_option maxRecDepth 100000 in
theorem cX8_partSums_ct (l : Launch) (D : va_G) (cI cL cC cZ : ClassId) (a_this a_text a_now a_before a_read a_first a_second a_sums a_other a_grid a_order : Nat) (g_length : Int32) (g_undoMany : Int32) (g_spot : Int32) (g_step : Int32) (g_coverMany : Int32) (g_leastSums : Int32) (g_leastPart : Int32) (g_first : Nat → Int32) (g_second : Nat → Int32) (g_sums : Nat → Int32) (q1 : Int32) (q2 : Int32) (q3 : Int32) (r0 : Int32) (v_sums : Nat → Int32) (hf : fX8_partSums q1 q2 q3 g_first g_second g_sums = some ((r0, v_sums))) : CtI l yX8_partSums wsX8_partSums rmX8_partSums D (tyz cI cL cC cZ) [.ref a_this, .int q1, .int q2, .int q3] [(a_this, .inr (8, [.int g_length, .ref a_text, .ref a_now, .ref a_before, .int g_undoMany, .ref a_read, .int g_spot, .ref a_first, .ref a_second, .ref a_sums, .ref a_other, .int g_step, .int g_coverMany, .ref a_grid, .ref a_order, .int g_leastSums, .int g_leastPart])), (a_first, .inl (cI, 41, .inl g_first)), (a_second, .inl (cI, 41, .inl g_second)), (a_sums, .inl (cZ, 241, .inl g_sums))] [(a_this, .inr (8, [.int g_length, .ref a_text, .ref a_now, .ref a_before, .int g_undoMany, .ref a_read, .int g_spot, .ref a_first, .ref a_second, .ref a_sums, .ref a_other, .int g_step, .int g_coverMany, .ref a_grid, .ref a_order, .int g_leastSums, .int g_leastPart])), (a_first, .inl (cI, 41, .inl g_first)), (a_second, .inl (cI, 41, .inl g_second)), (a_sums, .inl (cZ, 241, .inl v_sums))] r0 := by
  refine CtI.make (cc := cX8_partSums) (maxL := 7) (ty := .int) (by decide) rfl (Nat.le_of_ble_eq_true rfl) ?_
  intro p e s m below meth c A ls C0 hN hA hP hD hl
  obtain ⟨hx, hb, hr, hml, hown, hts, hlk⟩ := id C0
  have hown : s.vm.findClass RX8 = some m.cls := hown
  have hS : va_S A s.heap s.heap [] := va_S.rf
  have hP : va_P D vwCl [(a_this, .inr (8, [.int g_length, .ref a_text, .ref a_now, .ref a_before, .int g_undoMany, .ref a_read, .int g_spot, .ref a_first, .ref a_second, .ref a_sums, .ref a_other, .int g_step, .int g_coverMany, .ref a_grid, .ref a_order, .int g_leastSums, .int g_leastPart])), (a_first, .inl (cI, 41, .inl g_first)), (a_second, .inl (cI, 41, .inl g_second)), (a_sums, .inl (cZ, 241, .inl g_sums))] s.heap := hP
  have hD : va_D A [(a_this, .inr (8, [.int g_length, .ref a_text, .ref a_now, .ref a_before, .int g_undoMany, .ref a_read, .int g_spot, .ref a_first, .ref a_second, .ref a_sums, .ref a_other, .int g_step, .int g_coverMany, .ref a_grid, .ref a_order, .int g_leastSums, .int g_leastPart])), (a_first, .inl (cI, 41, .inl g_first)), (a_second, .inl (cI, 41, .inl g_second)), (a_sums, .inl (cZ, 241, .inl g_sums))] := hD
  have hl : lv_has ls 7 [(0, .ref a_this), (1, .int q1), (2, .int q2), (3, .int q3)] := hl
  have z1 : ∀ w ∈ u_ws RX8 TX8 17, w ∈ wsX8_partSums := by decide +kernel
  have z2 := hts (.fieldLink RX8 29 "LittleSumsModel" "sums" "[Z") (by decide +kernel)
  have z3 := hts (.fieldLink RX8 23 "LittleSumsModel" "first" "[I") (by decide +kernel)
  have z4 := hts (.fieldLink RX8 26 "LittleSumsModel" "second" "[I") (by decide +kernel)
  have w30 : ∀ (x1 : Int32) (x2 : Int32) (x3 : Int32) (g_first : Nat → Int32) (g_second : Nat → Int32) (x4 : Int32) (x5 : Int32) (g_sums : Nat → Int32) (t : Int32 × (Nat → Int32)) (H : Heap) (locs : List Loc) (ls : Array Slot), run (sX8_partSums_30 x1 x2 x3 g_first g_second) ((x4, x5, g_sums)) = some t → (fun z => z = (r0, v_sums)) t → va_P D vwCl [(a_this, .inr (8, [.int g_length, .ref a_text, .ref a_now, .ref a_before, .int g_undoMany, .ref a_read, .int g_spot, .ref a_first, .ref a_second, .ref a_sums, .ref a_other, .int g_step, .int g_coverMany, .ref a_grid, .ref a_order, .int g_leastSums, .int g_leastPart])), (a_first, .inl (cI, 41, .inl g_first)), (a_second, .inl (cI, 41, .inl g_second)), (a_sums, .inl (cZ, 241, .inl g_sums))] H → va_D A [(a_this, .inr (8, [.int g_length, .ref a_text, .ref a_now, .ref a_before, .int g_undoMany, .ref a_read, .int g_spot, .ref a_first, .ref a_second, .ref a_sums, .ref a_other, .int g_step, .int g_coverMany, .ref a_grid, .ref a_order, .int g_leastSums, .int g_leastPart])), (a_first, .inl (cI, 41, .inl g_first)), (a_second, .inl (cI, 41, .inl g_second)), (a_sums, .inl (cZ, 241, .inl g_sums))] → va_S A s.heap H locs → lv_has ls 7 [(0, .ref a_this), (1, .int x1), (2, .int x2), (3, .int x3), (4, .int x4), (5, .int x5)] → W p l e rmX8_partSums s m ([.ref a_this, .int q1, .int q2, .int q3] : List Value).toArray below meth c H locs 0 0 (MQ below (cQi D r0 A [(a_this, .inr (8, [.int g_length, .ref a_text, .ref a_now, .ref a_before, .int g_undoMany, .ref a_read, .int g_spot, .ref a_first, .ref a_second, .ref a_sums, .ref a_other, .int g_step, .int g_coverMany, .ref a_grid, .ref a_order, .int g_leastSums, .int g_leastPart])), (a_first, .inl (cI, 41, .inl g_first)), (a_second, .inl (cI, 41, .inl g_second)), (a_sums, .inl (cZ, 241, .inl v_sums))]) ([.ref a_this, .int q1, .int q2, .int q3] : List Value).toArray s 0 0 A) (F0 m 30 ls []) := by
    intro x1 x2 x3 g_first g_second
    obtain ⟨F30, eF30⟩ : ∃ F : (Int32 × Int32 × (Nat → Int32)) → Prop, F = fun q => ∀ (H : Heap) (locs : List Loc) (ls : Array Slot), va_P D vwCl [(a_this, .inr (8, [.int g_length, .ref a_text, .ref a_now, .ref a_before, .int g_undoMany, .ref a_read, .int g_spot, .ref a_first, .ref a_second, .ref a_sums, .ref a_other, .int g_step, .int g_coverMany, .ref a_grid, .ref a_order, .int g_leastSums, .int g_leastPart])), (a_first, .inl (cI, 41, .inl g_first)), (a_second, .inl (cI, 41, .inl g_second)), (a_sums, .inl (cZ, 241, .inl q.2.2))] H → va_D A [(a_this, .inr (8, [.int g_length, .ref a_text, .ref a_now, .ref a_before, .int g_undoMany, .ref a_read, .int g_spot, .ref a_first, .ref a_second, .ref a_sums, .ref a_other, .int g_step, .int g_coverMany, .ref a_grid, .ref a_order, .int g_leastSums, .int g_leastPart])), (a_first, .inl (cI, 41, .inl g_first)), (a_second, .inl (cI, 41, .inl g_second)), (a_sums, .inl (cZ, 241, .inl q.2.2))] → va_S A s.heap H locs → lv_has ls 7 [(0, .ref a_this), (1, .int x1), (2, .int x2), (3, .int x3), (4, .int q.1), (5, .int q.2.1)] → W p l e rmX8_partSums s m ([.ref a_this, .int q1, .int q2, .int q3] : List Value).toArray below meth c H locs 0 0 (MQ below (cQi D r0 A [(a_this, .inr (8, [.int g_length, .ref a_text, .ref a_now, .ref a_before, .int g_undoMany, .ref a_read, .int g_spot, .ref a_first, .ref a_second, .ref a_sums, .ref a_other, .int g_step, .int g_coverMany, .ref a_grid, .ref a_order, .int g_leastSums, .int g_leastPart])), (a_first, .inl (cI, 41, .inl g_first)), (a_second, .inl (cI, 41, .inl g_second)), (a_sums, .inl (cZ, 241, .inl v_sums))]) ([.ref a_this, .int q1, .int q2, .int q3] : List Value).toArray s 0 0 A) (F0 m 30 ls []) := ⟨_, rfl⟩
    have key : ∀ (q : Int32 × Int32 × (Nat → Int32)) (t : Int32 × (Nat → Int32)), run (sX8_partSums_30 x1 x2 x3 g_first g_second) q = some t → (fun z => z = (r0, v_sums)) t → F30 q := by
      refine loop_rule (sX8_partSums_30 x1 x2 x3 g_first g_second) F30 (fun z => z = (r0, v_sums)) ?_
      intro q t hf hF
      have hF : (Sum.elim F30 (fun z => z = (r0, v_sums))) t := hF
      have w115 : ∀ (x4 : Int32) (x5 : Int32) (g_sums : Nat → Int32) (t : (Int32 × Int32 × (Nat → Int32)) ⊕ (Int32 × (Nat → Int32))) (H : Heap) (locs : List Loc) (ls : Array Slot), bX8_partSums_115 x1 x2 x3 x4 x5 g_first g_second g_sums = some t → (Sum.elim F30 (fun z => z = (r0, v_sums))) t → va_P D vwCl [(a_this, .inr (8, [.int g_length, .ref a_text, .ref a_now, .ref a_before, .int g_undoMany, .ref a_read, .int g_spot, .ref a_first, .ref a_second, .ref a_sums, .ref a_other, .int g_step, .int g_coverMany, .ref a_grid, .ref a_order, .int g_leastSums, .int g_leastPart])), (a_first, .inl (cI, 41, .inl g_first)), (a_second, .inl (cI, 41, .inl g_second)), (a_sums, .inl (cZ, 241, .inl g_sums))] H → va_D A [(a_this, .inr (8, [.int g_length, .ref a_text, .ref a_now, .ref a_before, .int g_undoMany, .ref a_read, .int g_spot, .ref a_first, .ref a_second, .ref a_sums, .ref a_other, .int g_step, .int g_coverMany, .ref a_grid, .ref a_order, .int g_leastSums, .int g_leastPart])), (a_first, .inl (cI, 41, .inl g_first)), (a_second, .inl (cI, 41, .inl g_second)), (a_sums, .inl (cZ, 241, .inl g_sums))] → va_S A s.heap H locs → lv_has ls 7 [(0, .ref a_this), (1, .int x1), (2, .int x2), (3, .int x3), (4, .int x4), (5, .int x5)] → W p l e rmX8_partSums s m ([.ref a_this, .int q1, .int q2, .int q3] : List Value).toArray below meth c H locs 0 0 (MQ below (cQi D r0 A [(a_this, .inr (8, [.int g_length, .ref a_text, .ref a_now, .ref a_before, .int g_undoMany, .ref a_read, .int g_spot, .ref a_first, .ref a_second, .ref a_sums, .ref a_other, .int g_step, .int g_coverMany, .ref a_grid, .ref a_order, .int g_leastSums, .int g_leastPart])), (a_first, .inl (cI, 41, .inl g_first)), (a_second, .inl (cI, 41, .inl g_second)), (a_sums, .inl (cZ, 241, .inl v_sums))]) ([.ref a_this, .int q1, .int q2, .int q3] : List Value).toArray s 0 0 A) (F0 m 115 ls []) := by
        intro x4 x5 g_sums t H locs ls hf hF hP hD hS hl
        unfold bX8_partSums_115 at hf
        obtain ⟨y1, ey1⟩ : ∃ z : Int32, z = x5 + (1 : Int32) := ⟨_, rfl⟩
        have hf := lt_some hf y1 ey1
        refine lv_iinc (v := y1) (lv' := [(5, .int y1), (0, .ref a_this), (1, .int x1), (2, .int x2), (3, .int x3), (4, .int x4)]) hx hb dX8_partSums_115 hl (k := 5) rfl (by rw [ey1]; rfl) (by decide) rfl (fun ls hl => ?_)
        refine lv_goto (tgt := 30) hx hb dX8_partSums_118 (by decide) ?_
        cases hf
        exact ((congrFun eF30 _).mp hF) H locs ls hP hD hS (lv_sub hl [1, 2, 3, 4, 5, 0] rfl)
      have w39 : ∀ (x5 : Int32) (x4 : Int32) (x6 : Int32) (g_sums : Nat → Int32) (t : (Int32 × Int32 × (Nat → Int32)) ⊕ (Int32 × (Nat → Int32))) (H : Heap) (locs : List Loc) (ls : Array Slot), run (sX8_partSums_39 x1 x2 x3 x5 g_first g_second) ((x4, x6, g_sums)) = some t → (Sum.elim F30 (fun z => z = (r0, v_sums))) t → va_P D vwCl [(a_this, .inr (8, [.int g_length, .ref a_text, .ref a_now, .ref a_before, .int g_undoMany, .ref a_read, .int g_spot, .ref a_first, .ref a_second, .ref a_sums, .ref a_other, .int g_step, .int g_coverMany, .ref a_grid, .ref a_order, .int g_leastSums, .int g_leastPart])), (a_first, .inl (cI, 41, .inl g_first)), (a_second, .inl (cI, 41, .inl g_second)), (a_sums, .inl (cZ, 241, .inl g_sums))] H → va_D A [(a_this, .inr (8, [.int g_length, .ref a_text, .ref a_now, .ref a_before, .int g_undoMany, .ref a_read, .int g_spot, .ref a_first, .ref a_second, .ref a_sums, .ref a_other, .int g_step, .int g_coverMany, .ref a_grid, .ref a_order, .int g_leastSums, .int g_leastPart])), (a_first, .inl (cI, 41, .inl g_first)), (a_second, .inl (cI, 41, .inl g_second)), (a_sums, .inl (cZ, 241, .inl g_sums))] → va_S A s.heap H locs → lv_has ls 7 [(0, .ref a_this), (1, .int x1), (2, .int x2), (3, .int x3), (4, .int x4), (5, .int x5), (6, .int x6)] → W p l e rmX8_partSums s m ([.ref a_this, .int q1, .int q2, .int q3] : List Value).toArray below meth c H locs 0 0 (MQ below (cQi D r0 A [(a_this, .inr (8, [.int g_length, .ref a_text, .ref a_now, .ref a_before, .int g_undoMany, .ref a_read, .int g_spot, .ref a_first, .ref a_second, .ref a_sums, .ref a_other, .int g_step, .int g_coverMany, .ref a_grid, .ref a_order, .int g_leastSums, .int g_leastPart])), (a_first, .inl (cI, 41, .inl g_first)), (a_second, .inl (cI, 41, .inl g_second)), (a_sums, .inl (cZ, 241, .inl v_sums))]) ([.ref a_this, .int q1, .int q2, .int q3] : List Value).toArray s 0 0 A) (F0 m 39 ls []) := by
        intro x5
        obtain ⟨F39, eF39⟩ : ∃ F : (Int32 × Int32 × (Nat → Int32)) → Prop, F = fun q => ∀ (H : Heap) (locs : List Loc) (ls : Array Slot), va_P D vwCl [(a_this, .inr (8, [.int g_length, .ref a_text, .ref a_now, .ref a_before, .int g_undoMany, .ref a_read, .int g_spot, .ref a_first, .ref a_second, .ref a_sums, .ref a_other, .int g_step, .int g_coverMany, .ref a_grid, .ref a_order, .int g_leastSums, .int g_leastPart])), (a_first, .inl (cI, 41, .inl g_first)), (a_second, .inl (cI, 41, .inl g_second)), (a_sums, .inl (cZ, 241, .inl q.2.2))] H → va_D A [(a_this, .inr (8, [.int g_length, .ref a_text, .ref a_now, .ref a_before, .int g_undoMany, .ref a_read, .int g_spot, .ref a_first, .ref a_second, .ref a_sums, .ref a_other, .int g_step, .int g_coverMany, .ref a_grid, .ref a_order, .int g_leastSums, .int g_leastPart])), (a_first, .inl (cI, 41, .inl g_first)), (a_second, .inl (cI, 41, .inl g_second)), (a_sums, .inl (cZ, 241, .inl q.2.2))] → va_S A s.heap H locs → lv_has ls 7 [(0, .ref a_this), (1, .int x1), (2, .int x2), (3, .int x3), (4, .int q.1), (5, .int x5), (6, .int q.2.1)] → W p l e rmX8_partSums s m ([.ref a_this, .int q1, .int q2, .int q3] : List Value).toArray below meth c H locs 0 0 (MQ below (cQi D r0 A [(a_this, .inr (8, [.int g_length, .ref a_text, .ref a_now, .ref a_before, .int g_undoMany, .ref a_read, .int g_spot, .ref a_first, .ref a_second, .ref a_sums, .ref a_other, .int g_step, .int g_coverMany, .ref a_grid, .ref a_order, .int g_leastSums, .int g_leastPart])), (a_first, .inl (cI, 41, .inl g_first)), (a_second, .inl (cI, 41, .inl g_second)), (a_sums, .inl (cZ, 241, .inl v_sums))]) ([.ref a_this, .int q1, .int q2, .int q3] : List Value).toArray s 0 0 A) (F0 m 39 ls []) := ⟨_, rfl⟩
        have key : ∀ (q : Int32 × Int32 × (Nat → Int32)) (t : (Int32 × Int32 × (Nat → Int32)) ⊕ (Int32 × (Nat → Int32))), run (sX8_partSums_39 x1 x2 x3 x5 g_first g_second) q = some t → (Sum.elim F30 (fun z => z = (r0, v_sums))) t → F39 q := by
          refine loop_rule (sX8_partSums_39 x1 x2 x3 x5 g_first g_second) F39 (Sum.elim F30 (fun z => z = (r0, v_sums))) ?_
          intro q t hf hF
          have hF : (Sum.elim F39 (Sum.elim F30 (fun z => z = (r0, v_sums)))) t := hF
          have w85 : ∀ (x6 : Int32) (k0 : Int32) (k1 : Int32) (g_sums : Nat → Int32) (t : (Int32 × Int32 × (Nat → Int32)) ⊕ ((Int32 × Int32 × (Nat → Int32)) ⊕ (Int32 × (Nat → Int32)))) (H : Heap) (locs : List Loc) (ls : Array Slot), bX8_partSums_85 x1 x2 x3 x5 x6 k0 k1 g_first g_second g_sums = some t → (Sum.elim F39 (Sum.elim F30 (fun z => z = (r0, v_sums)))) t → va_P D vwCl [(a_this, .inr (8, [.int g_length, .ref a_text, .ref a_now, .ref a_before, .int g_undoMany, .ref a_read, .int g_spot, .ref a_first, .ref a_second, .ref a_sums, .ref a_other, .int g_step, .int g_coverMany, .ref a_grid, .ref a_order, .int g_leastSums, .int g_leastPart])), (a_first, .inl (cI, 41, .inl g_first)), (a_second, .inl (cI, 41, .inl g_second)), (a_sums, .inl (cZ, 241, .inl g_sums))] H → va_D A [(a_this, .inr (8, [.int g_length, .ref a_text, .ref a_now, .ref a_before, .int g_undoMany, .ref a_read, .int g_spot, .ref a_first, .ref a_second, .ref a_sums, .ref a_other, .int g_step, .int g_coverMany, .ref a_grid, .ref a_order, .int g_leastSums, .int g_leastPart])), (a_first, .inl (cI, 41, .inl g_first)), (a_second, .inl (cI, 41, .inl g_second)), (a_sums, .inl (cZ, 241, .inl g_sums))] → va_S A s.heap H locs → lv_has ls 7 [(0, .ref a_this), (1, .int x1), (2, .int x2), (3, .int x3), (5, .int x5), (6, .int x6)] → W p l e rmX8_partSums s m ([.ref a_this, .int q1, .int q2, .int q3] : List Value).toArray below meth c H locs 0 0 (MQ below (cQi D r0 A [(a_this, .inr (8, [.int g_length, .ref a_text, .ref a_now, .ref a_before, .int g_undoMany, .ref a_read, .int g_spot, .ref a_first, .ref a_second, .ref a_sums, .ref a_other, .int g_step, .int g_coverMany, .ref a_grid, .ref a_order, .int g_leastSums, .int g_leastPart])), (a_first, .inl (cI, 41, .inl g_first)), (a_second, .inl (cI, 41, .inl g_second)), (a_sums, .inl (cZ, 241, .inl v_sums))]) ([.ref a_this, .int q1, .int q2, .int q3] : List Value).toArray s 0 0 A) (F0 m 85 ls [.int k1, .int k0]) := by
            intro x6 k0 k1 g_sums t H locs ls hf hF hP hD hS hl
            unfold bX8_partSums_85 at hf
            refine lv_iadd hx hb dX8_partSums_85 ?_
            refine lv_topi (fun y2 ey2 => ?_)
            have hf := lt_some hf y2 ey2
            refine lv_istore (lv' := [(4, .int y2), (0, .ref a_this), (1, .int x1), (2, .int x2), (3, .int x3), (5, .int x5), (6, .int x6)]) hx hb dX8_partSums_86 hl (by decide) rfl (fun ls hl => ?_)
            refine lv_aload_n hx hb dX8_partSums_88 rfl (lv_at hl 1 rfl) ?_
            refine va_get (D := D) (ci := 8) (v := .ref a_sums) (C := RX8) (T := TX8) (N := 17) hx hb hts z1 hown hN.1 hP 0 rfl rfl 9 (by decide) z2 (fun _ h9 => h9) rfl dX8_partSums_89 ?_
            refine lv_aload_n hx hb dX8_partSums_92 rfl (lv_at hl 1 rfl) ?_
            refine va_get (D := D) (ci := 8) (v := .ref a_first) (C := RX8) (T := TX8) (N := 17) hx hb hts z1 hown hN.1 hP 0 rfl rfl 7 (by decide) z3 (fun _ h9 => h9) rfl dX8_partSums_93 ?_
            refine lv_iload hx hb dX8_partSums_96 (lv_at hl 5 rfl) ?_
            obtain ⟨c3, hf⟩ := gd_some hf
            refine va_iald hx hb hN.1 hP 1 0 rfl rfl (ix_in c3) dX8_partSums_98 ?_
            refine lv_aload_n hx hb dX8_partSums_99 rfl (lv_at hl 1 rfl) ?_
            refine va_get (D := D) (ci := 8) (v := .ref a_second) (C := RX8) (T := TX8) (N := 17) hx hb hts z1 hown hN.1 hP 0 rfl rfl 8 (by decide) z4 (fun _ h9 => h9) rfl dX8_partSums_100 ?_
            refine lv_iload hx hb dX8_partSums_103 (lv_at hl 6 rfl) ?_
            obtain ⟨c4, hf⟩ := gd_some hf
            refine va_iald hx hb hN.1 hP 2 0 rfl rfl (ix_in c4) dX8_partSums_105 ?_
            refine lv_iadd hx hb dX8_partSums_106 ?_
            refine lv_iconst (v := 1) hx hb dX8_partSums_107 (by decide) ?_
            obtain ⟨c5, hf⟩ := gd_some hf
            refine va_zast hx hb hN.1 hP hD hS 3 3 rfl rfl (ix_in c5) dX8_partSums_108 (fun H locs hP hD hS => ?_)
            obtain ⟨y6, ey6⟩ : ∃ z, z = upd g_sums ((g_first x5.toNatClampNeg) + (g_second x6.toNatClampNeg)).toNatClampNeg (vp_nar .boolean (1 : Int32)) := ⟨_, rfl⟩
            have hf := lt_some hf y6 ey6
            have hP : va_P D vwCl [(a_this, .inr (8, [.int g_length, .ref a_text, .ref a_now, .ref a_before, .int g_undoMany, .ref a_read, .int g_spot, .ref a_first, .ref a_second, .ref a_sums, .ref a_other, .int g_step, .int g_coverMany, .ref a_grid, .ref a_order, .int g_leastSums, .int g_leastPart])), (a_first, .inl (cI, 41, .inl g_first)), (a_second, .inl (cI, 41, .inl g_second)), (a_sums, .inl (cZ, 241, .inl y6))] H := by rw [ey6]; exact hP
            have hD : va_D A [(a_this, .inr (8, [.int g_length, .ref a_text, .ref a_now, .ref a_before, .int g_undoMany, .ref a_read, .int g_spot, .ref a_first, .ref a_second, .ref a_sums, .ref a_other, .int g_step, .int g_coverMany, .ref a_grid, .ref a_order, .int g_leastSums, .int g_leastPart])), (a_first, .inl (cI, 41, .inl g_first)), (a_second, .inl (cI, 41, .inl g_second)), (a_sums, .inl (cZ, 241, .inl y6))] := by rw [ey6]; exact hD
            obtain ⟨y7, ey7⟩ : ∃ z : Int32, z = x6 + (1 : Int32) := ⟨_, rfl⟩
            have hf := lt_some hf y7 ey7
            refine lv_iinc (v := y7) (lv' := [(6, .int y7), (4, .int y2), (0, .ref a_this), (1, .int x1), (2, .int x2), (3, .int x3), (5, .int x5)]) hx hb dX8_partSums_109 hl (k := 6) rfl (by rw [ey7]; rfl) (by decide) rfl (fun ls hl => ?_)
            refine lv_goto (tgt := 39) hx hb dX8_partSums_112 (by decide) ?_
            cases hf
            exact ((congrFun eF39 _).mp hF) H locs ls hP hD hS (lv_sub hl [2, 3, 4, 5, 1, 6, 0] rfl)
          rw [eF39]
          obtain ⟨x4, x6, g_sums⟩ := q
          intro H locs ls hP hD hS hl
          have hP : va_P D vwCl [(a_this, .inr (8, [.int g_length, .ref a_text, .ref a_now, .ref a_before, .int g_undoMany, .ref a_read, .int g_spot, .ref a_first, .ref a_second, .ref a_sums, .ref a_other, .int g_step, .int g_coverMany, .ref a_grid, .ref a_order, .int g_leastSums, .int g_leastPart])), (a_first, .inl (cI, 41, .inl g_first)), (a_second, .inl (cI, 41, .inl g_second)), (a_sums, .inl (cZ, 241, .inl g_sums))] H := hP
          have hD : va_D A [(a_this, .inr (8, [.int g_length, .ref a_text, .ref a_now, .ref a_before, .int g_undoMany, .ref a_read, .int g_spot, .ref a_first, .ref a_second, .ref a_sums, .ref a_other, .int g_step, .int g_coverMany, .ref a_grid, .ref a_order, .int g_leastSums, .int g_leastPart])), (a_first, .inl (cI, 41, .inl g_first)), (a_second, .inl (cI, 41, .inl g_second)), (a_sums, .inl (cZ, 241, .inl g_sums))] := hD
          have hl : lv_has ls 7 [(0, .ref a_this), (1, .int x1), (2, .int x2), (3, .int x3), (4, .int x4), (5, .int x5), (6, .int x6)] := hl
          have hf : bX8_partSums_39 x1 x2 x3 x5 g_first g_second x4 x6 g_sums = some t := hf
          unfold bX8_partSums_39 at hf
          refine lv_iload hx hb dX8_partSums_39 (lv_at hl 6 rfl) ?_
          refine lv_iload_n hx hb dX8_partSums_41 rfl (lv_at hl 3 rfl) ?_
          refine lv_icmp_ge (tgt := 115) hx hb dX8_partSums_42 (by decide) (fun c8 => ?_) (fun c8 => ?_)
          · have hf := br_pos c8 hf
            obtain ⟨t9, hf, hF⟩ := ml_fin hf hF
            exact w115 x4 x5 g_sums _ H locs ls hf hF hP hD hS (lv_sub hl [0, 1, 2, 3, 4, 5] rfl)
          · have hf := br_neg c8 hf
            refine lv_iload_n hx hb dX8_partSums_45 rfl (lv_at hl 1 rfl) ?_
            refine lv_iload hx hb dX8_partSums_46 (lv_at hl 5 rfl) ?_
            refine lv_ishr hx hb dX8_partSums_48 ?_
            refine lv_iconst (v := 1) hx hb dX8_partSums_49 (by decide) ?_
            refine lv_iand hx hb dX8_partSums_50 ?_
            refine lv_iconst (v := 1) hx hb dX8_partSums_51 (by decide) ?_
            refine lv_icmp_ne (tgt := 115) hx hb dX8_partSums_52 (by decide) (fun c10 => ?_) (fun c10 => ?_)
            · have hf := br_neg c10 hf
              obtain ⟨t11, hf, hF⟩ := ml_fin hf hF
              exact w115 x4 x5 g_sums _ H locs ls hf hF hP hD hS (lv_sub hl [0, 1, 2, 3, 4, 5] rfl)
            · have hf := br_pos c10 hf
              refine lv_iload hx hb dX8_partSums_55 (lv_at hl 4 rfl) ?_
              refine lv_aload_n hx hb dX8_partSums_57 rfl (lv_at hl 0 rfl) ?_
              refine va_get (D := D) (ci := 8) (v := .ref a_sums) (C := RX8) (T := TX8) (N := 17) hx hb hts z1 hown hN.1 hP 0 rfl rfl 9 (by decide) z2 (fun _ h9 => h9) rfl dX8_partSums_58 ?_
              refine lv_aload_n hx hb dX8_partSums_61 rfl (lv_at hl 0 rfl) ?_
              refine va_get (D := D) (ci := 8) (v := .ref a_first) (C := RX8) (T := TX8) (N := 17) hx hb hts z1 hown hN.1 hP 0 rfl rfl 7 (by decide) z3 (fun _ h9 => h9) rfl dX8_partSums_62 ?_
              refine lv_iload hx hb dX8_partSums_65 (lv_at hl 5 rfl) ?_
              obtain ⟨c12, hf⟩ := gd_some hf
              refine va_iald hx hb hN.1 hP 1 0 rfl rfl (ix_in c12) dX8_partSums_67 ?_
              refine lv_aload_n hx hb dX8_partSums_68 rfl (lv_at hl 0 rfl) ?_
              refine va_get (D := D) (ci := 8) (v := .ref a_second) (C := RX8) (T := TX8) (N := 17) hx hb hts z1 hown hN.1 hP 0 rfl rfl 8 (by decide) z4 (fun _ h9 => h9) rfl dX8_partSums_69 ?_
              refine lv_iload hx hb dX8_partSums_72 (lv_at hl 6 rfl) ?_
              obtain ⟨c13, hf⟩ := gd_some hf
              refine va_iald hx hb hN.1 hP 2 0 rfl rfl (ix_in c13) dX8_partSums_74 ?_
              refine lv_iadd hx hb dX8_partSums_75 ?_
              obtain ⟨c14, hf⟩ := gd_some hf
              refine va_zald hx hb hN.1 hP 3 3 rfl rfl (ix_in c14) dX8_partSums_76 ?_
              refine lv_if_eq (tgt := 84) hx hb dX8_partSums_77 (by decide) (fun c15 => ?_) (fun c15 => ?_)
              · have hf := br_pos c15 hf
                refine lv_iconst (v := 1) hx hb dX8_partSums_84 (by decide) ?_
                exact w85 x6 x4 (1 : Int32) g_sums _ H locs ls hf hF hP hD hS (lv_sub hl [0, 1, 2, 3, 5, 6] rfl)
              · have hf := br_neg c15 hf
                refine lv_iconst (v := 0) hx hb dX8_partSums_80 (by decide) ?_
                refine lv_goto (tgt := 85) hx hb dX8_partSums_81 (by decide) ?_
                exact w85 x6 x4 (0 : Int32) g_sums _ H locs ls hf hF hP hD hS (lv_sub hl [0, 1, 2, 3, 5, 6] rfl)
        intro x4 x6 g_sums t H locs ls hf hF hP hD hS hl
        exact ((congrFun eF39 _).mp (key ((x4, x6, g_sums)) t hf hF)) H locs ls hP hD hS hl
      rw [eF30]
      obtain ⟨x4, x5, g_sums⟩ := q
      intro H locs ls hP hD hS hl
      have hP : va_P D vwCl [(a_this, .inr (8, [.int g_length, .ref a_text, .ref a_now, .ref a_before, .int g_undoMany, .ref a_read, .int g_spot, .ref a_first, .ref a_second, .ref a_sums, .ref a_other, .int g_step, .int g_coverMany, .ref a_grid, .ref a_order, .int g_leastSums, .int g_leastPart])), (a_first, .inl (cI, 41, .inl g_first)), (a_second, .inl (cI, 41, .inl g_second)), (a_sums, .inl (cZ, 241, .inl g_sums))] H := hP
      have hD : va_D A [(a_this, .inr (8, [.int g_length, .ref a_text, .ref a_now, .ref a_before, .int g_undoMany, .ref a_read, .int g_spot, .ref a_first, .ref a_second, .ref a_sums, .ref a_other, .int g_step, .int g_coverMany, .ref a_grid, .ref a_order, .int g_leastSums, .int g_leastPart])), (a_first, .inl (cI, 41, .inl g_first)), (a_second, .inl (cI, 41, .inl g_second)), (a_sums, .inl (cZ, 241, .inl g_sums))] := hD
      have hl : lv_has ls 7 [(0, .ref a_this), (1, .int x1), (2, .int x2), (3, .int x3), (4, .int x4), (5, .int x5)] := hl
      have hf : bX8_partSums_30 x1 x2 x3 g_first g_second x4 x5 g_sums = some t := hf
      unfold bX8_partSums_30 at hf
      refine lv_iload hx hb dX8_partSums_30 (lv_at hl 5 rfl) ?_
      refine lv_iload_n hx hb dX8_partSums_32 rfl (lv_at hl 2 rfl) ?_
      refine lv_icmp_ge (tgt := 121) hx hb dX8_partSums_33 (by decide) (fun c16 => ?_) (fun c16 => ?_)
      · have hf := br_pos c16 hf
        refine lv_iload hx hb dX8_partSums_121 (lv_at hl 4 rfl) ?_
        cases hf
        have hE : (x4, g_sums) = (r0, v_sums) := hF
        simp only [Prod.mk.injEq] at hE
        obtain ⟨rfl, rfl⟩ := hE
        exact rtI hx hb hr hlk hP hD hS dX8_partSums_123
      · have hf := br_neg c16 hf
        refine lv_iconst (v := 0) hx hb dX8_partSums_36 (by decide) ?_
        refine lv_istore (lv' := [(6, .int (0 : Int32)), (0, .ref a_this), (1, .int x1), (2, .int x2), (3, .int x3), (4, .int x4), (5, .int x5)]) hx hb dX8_partSums_37 hl (by decide) rfl (fun ls hl => ?_)
        exact w39 x5 x4 (0 : Int32) g_sums _ H locs ls hf hF hP hD hS (lv_sub hl [1, 2, 3, 4, 5, 6, 0] rfl)
    intro x4 x5 g_sums t H locs ls hf hF hP hD hS hl
    exact ((congrFun eF30 _).mp (key ((x4, x5, g_sums)) t hf hF)) H locs ls hP hD hS hl
  have w3 : ∀ (x1 : Int32) (x2 : Int32) (x3 : Int32) (g_first : Nat → Int32) (g_second : Nat → Int32) (x4 : Int32) (g_sums : Nat → Int32) (t : Int32 × (Nat → Int32)) (H : Heap) (locs : List Loc) (ls : Array Slot), run (sX8_partSums_3 x1 x2 x3 g_first g_second) ((x4, g_sums)) = some t → (fun z => z = (r0, v_sums)) t → va_P D vwCl [(a_this, .inr (8, [.int g_length, .ref a_text, .ref a_now, .ref a_before, .int g_undoMany, .ref a_read, .int g_spot, .ref a_first, .ref a_second, .ref a_sums, .ref a_other, .int g_step, .int g_coverMany, .ref a_grid, .ref a_order, .int g_leastSums, .int g_leastPart])), (a_first, .inl (cI, 41, .inl g_first)), (a_second, .inl (cI, 41, .inl g_second)), (a_sums, .inl (cZ, 241, .inl g_sums))] H → va_D A [(a_this, .inr (8, [.int g_length, .ref a_text, .ref a_now, .ref a_before, .int g_undoMany, .ref a_read, .int g_spot, .ref a_first, .ref a_second, .ref a_sums, .ref a_other, .int g_step, .int g_coverMany, .ref a_grid, .ref a_order, .int g_leastSums, .int g_leastPart])), (a_first, .inl (cI, 41, .inl g_first)), (a_second, .inl (cI, 41, .inl g_second)), (a_sums, .inl (cZ, 241, .inl g_sums))] → va_S A s.heap H locs → lv_has ls 7 [(0, .ref a_this), (1, .int x1), (2, .int x2), (3, .int x3), (4, .int x4)] → W p l e rmX8_partSums s m ([.ref a_this, .int q1, .int q2, .int q3] : List Value).toArray below meth c H locs 0 0 (MQ below (cQi D r0 A [(a_this, .inr (8, [.int g_length, .ref a_text, .ref a_now, .ref a_before, .int g_undoMany, .ref a_read, .int g_spot, .ref a_first, .ref a_second, .ref a_sums, .ref a_other, .int g_step, .int g_coverMany, .ref a_grid, .ref a_order, .int g_leastSums, .int g_leastPart])), (a_first, .inl (cI, 41, .inl g_first)), (a_second, .inl (cI, 41, .inl g_second)), (a_sums, .inl (cZ, 241, .inl v_sums))]) ([.ref a_this, .int q1, .int q2, .int q3] : List Value).toArray s 0 0 A) (F0 m 3 ls []) := by
    intro x1 x2 x3 g_first g_second
    obtain ⟨F3, eF3⟩ : ∃ F : (Int32 × (Nat → Int32)) → Prop, F = fun q => ∀ (H : Heap) (locs : List Loc) (ls : Array Slot), va_P D vwCl [(a_this, .inr (8, [.int g_length, .ref a_text, .ref a_now, .ref a_before, .int g_undoMany, .ref a_read, .int g_spot, .ref a_first, .ref a_second, .ref a_sums, .ref a_other, .int g_step, .int g_coverMany, .ref a_grid, .ref a_order, .int g_leastSums, .int g_leastPart])), (a_first, .inl (cI, 41, .inl g_first)), (a_second, .inl (cI, 41, .inl g_second)), (a_sums, .inl (cZ, 241, .inl q.2))] H → va_D A [(a_this, .inr (8, [.int g_length, .ref a_text, .ref a_now, .ref a_before, .int g_undoMany, .ref a_read, .int g_spot, .ref a_first, .ref a_second, .ref a_sums, .ref a_other, .int g_step, .int g_coverMany, .ref a_grid, .ref a_order, .int g_leastSums, .int g_leastPart])), (a_first, .inl (cI, 41, .inl g_first)), (a_second, .inl (cI, 41, .inl g_second)), (a_sums, .inl (cZ, 241, .inl q.2))] → va_S A s.heap H locs → lv_has ls 7 [(0, .ref a_this), (1, .int x1), (2, .int x2), (3, .int x3), (4, .int q.1)] → W p l e rmX8_partSums s m ([.ref a_this, .int q1, .int q2, .int q3] : List Value).toArray below meth c H locs 0 0 (MQ below (cQi D r0 A [(a_this, .inr (8, [.int g_length, .ref a_text, .ref a_now, .ref a_before, .int g_undoMany, .ref a_read, .int g_spot, .ref a_first, .ref a_second, .ref a_sums, .ref a_other, .int g_step, .int g_coverMany, .ref a_grid, .ref a_order, .int g_leastSums, .int g_leastPart])), (a_first, .inl (cI, 41, .inl g_first)), (a_second, .inl (cI, 41, .inl g_second)), (a_sums, .inl (cZ, 241, .inl v_sums))]) ([.ref a_this, .int q1, .int q2, .int q3] : List Value).toArray s 0 0 A) (F0 m 3 ls []) := ⟨_, rfl⟩
    have key : ∀ (q : Int32 × (Nat → Int32)) (t : Int32 × (Nat → Int32)), run (sX8_partSums_3 x1 x2 x3 g_first g_second) q = some t → (fun z => z = (r0, v_sums)) t → F3 q := by
      refine loop_rule (sX8_partSums_3 x1 x2 x3 g_first g_second) F3 (fun z => z = (r0, v_sums)) ?_
      intro q t hf hF
      have hF : (Sum.elim F3 (fun z => z = (r0, v_sums))) t := hF
      rw [eF3]
      obtain ⟨x4, g_sums⟩ := q
      intro H locs ls hP hD hS hl
      have hP : va_P D vwCl [(a_this, .inr (8, [.int g_length, .ref a_text, .ref a_now, .ref a_before, .int g_undoMany, .ref a_read, .int g_spot, .ref a_first, .ref a_second, .ref a_sums, .ref a_other, .int g_step, .int g_coverMany, .ref a_grid, .ref a_order, .int g_leastSums, .int g_leastPart])), (a_first, .inl (cI, 41, .inl g_first)), (a_second, .inl (cI, 41, .inl g_second)), (a_sums, .inl (cZ, 241, .inl g_sums))] H := hP
      have hD : va_D A [(a_this, .inr (8, [.int g_length, .ref a_text, .ref a_now, .ref a_before, .int g_undoMany, .ref a_read, .int g_spot, .ref a_first, .ref a_second, .ref a_sums, .ref a_other, .int g_step, .int g_coverMany, .ref a_grid, .ref a_order, .int g_leastSums, .int g_leastPart])), (a_first, .inl (cI, 41, .inl g_first)), (a_second, .inl (cI, 41, .inl g_second)), (a_sums, .inl (cZ, 241, .inl g_sums))] := hD
      have hl : lv_has ls 7 [(0, .ref a_this), (1, .int x1), (2, .int x2), (3, .int x3), (4, .int x4)] := hl
      have hf : bX8_partSums_3 x1 x2 x3 g_first g_second x4 g_sums = some t := hf
      unfold bX8_partSums_3 at hf
      refine lv_iload hx hb dX8_partSums_3 (lv_at hl 4 rfl) ?_
      refine lv_bipush (v := 81) hx hb dX8_partSums_5 (by decide) ?_
      refine lv_icmp_ge (tgt := 24) hx hb dX8_partSums_7 (by decide) (fun c17 => ?_) (fun c17 => ?_)
      · have hf := br_pos c17 hf
        refine lv_iconst (v := 0) hx hb dX8_partSums_24 (by decide) ?_
        refine lv_istore (lv' := [(4, .int (0 : Int32)), (0, .ref a_this), (1, .int x1), (2, .int x2), (3, .int x3)]) hx hb dX8_partSums_25 hl (by decide) rfl (fun ls hl => ?_)
        refine lv_iconst (v := 0) hx hb dX8_partSums_27 (by decide) ?_
        refine lv_istore (lv' := [(5, .int (0 : Int32)), (4, .int (0 : Int32)), (0, .ref a_this), (1, .int x1), (2, .int x2), (3, .int x3)]) hx hb dX8_partSums_28 hl (by decide) rfl (fun ls hl => ?_)
        obtain ⟨t18, hf, hF⟩ := ml_fin hf hF
        have hF : t18 = (r0, v_sums) := hF
        rw [hF] at hf
        exact w30 x1 x2 x3 g_first g_second (0 : Int32) (0 : Int32) g_sums (r0, v_sums) H locs ls hf rfl hP hD hS (lv_sub hl [2, 3, 4, 5, 1, 0] rfl)
      · have hf := br_neg c17 hf
        refine lv_aload_n hx hb dX8_partSums_10 rfl (lv_at hl 0 rfl) ?_
        refine va_get (D := D) (ci := 8) (v := .ref a_sums) (C := RX8) (T := TX8) (N := 17) hx hb hts z1 hown hN.1 hP 0 rfl rfl 9 (by decide) z2 (fun _ h9 => h9) rfl dX8_partSums_11 ?_
        refine lv_iload hx hb dX8_partSums_14 (lv_at hl 4 rfl) ?_
        refine lv_iconst (v := 0) hx hb dX8_partSums_16 (by decide) ?_
        obtain ⟨c19, hf⟩ := gd_some hf
        refine va_zast hx hb hN.1 hP hD hS 3 3 rfl rfl (ix_in c19) dX8_partSums_17 (fun H locs hP hD hS => ?_)
        obtain ⟨y20, ey20⟩ : ∃ z, z = upd g_sums x4.toNatClampNeg (vp_nar .boolean (0 : Int32)) := ⟨_, rfl⟩
        have hf := lt_some hf y20 ey20
        have hP : va_P D vwCl [(a_this, .inr (8, [.int g_length, .ref a_text, .ref a_now, .ref a_before, .int g_undoMany, .ref a_read, .int g_spot, .ref a_first, .ref a_second, .ref a_sums, .ref a_other, .int g_step, .int g_coverMany, .ref a_grid, .ref a_order, .int g_leastSums, .int g_leastPart])), (a_first, .inl (cI, 41, .inl g_first)), (a_second, .inl (cI, 41, .inl g_second)), (a_sums, .inl (cZ, 241, .inl y20))] H := by rw [ey20]; exact hP
        have hD : va_D A [(a_this, .inr (8, [.int g_length, .ref a_text, .ref a_now, .ref a_before, .int g_undoMany, .ref a_read, .int g_spot, .ref a_first, .ref a_second, .ref a_sums, .ref a_other, .int g_step, .int g_coverMany, .ref a_grid, .ref a_order, .int g_leastSums, .int g_leastPart])), (a_first, .inl (cI, 41, .inl g_first)), (a_second, .inl (cI, 41, .inl g_second)), (a_sums, .inl (cZ, 241, .inl y20))] := by rw [ey20]; exact hD
        obtain ⟨y21, ey21⟩ : ∃ z : Int32, z = x4 + (1 : Int32) := ⟨_, rfl⟩
        have hf := lt_some hf y21 ey21
        refine lv_iinc (v := y21) (lv' := [(4, .int y21), (0, .ref a_this), (1, .int x1), (2, .int x2), (3, .int x3)]) hx hb dX8_partSums_18 hl (k := 4) rfl (by rw [ey21]; rfl) (by decide) rfl (fun ls hl => ?_)
        refine lv_goto (tgt := 3) hx hb dX8_partSums_21 (by decide) ?_
        cases hf
        exact ((congrFun eF3 _).mp hF) H locs ls hP hD hS (lv_sub hl [1, 2, 3, 4, 0] rfl)
    intro x4 g_sums t H locs ls hf hF hP hD hS hl
    exact ((congrFun eF3 _).mp (key ((x4, g_sums)) t hf hF)) H locs ls hP hD hS hl
  unfold fX8_partSums at hf
  obtain ⟨H, eH⟩ : ∃ z, z = s.heap := ⟨_, rfl⟩
  obtain ⟨locs, eL⟩ : ∃ z : List Loc, z = [] := ⟨_, rfl⟩
  have hP : va_P D vwCl [(a_this, .inr (8, [.int g_length, .ref a_text, .ref a_now, .ref a_before, .int g_undoMany, .ref a_read, .int g_spot, .ref a_first, .ref a_second, .ref a_sums, .ref a_other, .int g_step, .int g_coverMany, .ref a_grid, .ref a_order, .int g_leastSums, .int g_leastPart])), (a_first, .inl (cI, 41, .inl g_first)), (a_second, .inl (cI, 41, .inl g_second)), (a_sums, .inl (cZ, 241, .inl g_sums))] H := by rw [eH]; exact hP
  have hS : va_S A s.heap H locs := by rw [eH, eL]; exact hS
  suffices hG : W p l e rmX8_partSums s m ([.ref a_this, .int q1, .int q2, .int q3] : List Value).toArray below meth c H locs 0 0 (MQ below (cQi D r0 A [(a_this, .inr (8, [.int g_length, .ref a_text, .ref a_now, .ref a_before, .int g_undoMany, .ref a_read, .int g_spot, .ref a_first, .ref a_second, .ref a_sums, .ref a_other, .int g_step, .int g_coverMany, .ref a_grid, .ref a_order, .int g_leastSums, .int g_leastPart])), (a_first, .inl (cI, 41, .inl g_first)), (a_second, .inl (cI, 41, .inl g_second)), (a_sums, .inl (cZ, 241, .inl v_sums))]) ([.ref a_this, .int q1, .int q2, .int q3] : List Value).toArray s 0 0 A) (F0 m 0 ls []) by rw [eH, eL] at hG; exact hG
  refine lv_iconst (v := 0) hx hb dX8_partSums_0 (by decide) ?_
  refine lv_istore (lv' := [(4, .int (0 : Int32)), (0, .ref a_this), (1, .int q1), (2, .int q2), (3, .int q3)]) hx hb dX8_partSums_1 hl (by decide) rfl (fun ls hl => ?_)
  exact w3 q1 q2 q3 g_first g_second (0 : Int32) g_sums (r0, v_sums) H locs ls hf rfl hP hD hS (lv_sub hl [1, 2, 3, 4, 0] rfl)
abbrev rmX8_bits : Room := { frames := 0, cells := 0, slots := 0, locals := 0 }
noncomputable def bX8_bits_4 (x0 : Int32) (x1 : Int32) (x2 : Int32) : Option ((Int32 × Int32) ⊕ (Int32)) := br ((12 : Int32) ≤ x2) (some (Sum.inr (x1))) (lt_ (x1 + ((x0 >>> (x2 &&& 31)) &&& (1 : Int32))) (fun y2 => lt_ (x2 + (1 : Int32)) (fun y3 => some (Sum.inl ((y2, y3))))))
noncomputable def sX8_bits_4 (x0 : Int32) : (Int32 × Int32) → Option ((Int32 × Int32) ⊕ (Int32)) := fun q => bX8_bits_4 x0 q.1 q.2
noncomputable def fX8_bits (q0 : Int32) : Option (Int32) := run (sX8_bits_4 q0) (((0 : Int32), (0 : Int32)))
set_option maxHeartbeats 4000000 in
set_option maxRecDepth 100000 in
theorem cX8_bits_ct (l : Launch) (D : va_G) (cI cL cC cZ : ClassId) (q0 : Int32) (r0 : Int32) (hf : fX8_bits q0 = some r0) : CtI l yX8_bits wsX8_bits rmX8_bits D (tyz cI cL cC cZ) [.int q0] [] [] r0 := by
  refine CtI.make (cc := cX8_bits) (maxL := 3) (ty := .int) (by decide) rfl (Nat.le_of_ble_eq_true rfl) ?_
  intro p e s m below meth c A ls C0 hN hA hP hD hl
  obtain ⟨hx, hb, hr, hml, hown, hts, hlk⟩ := id C0
  have hown : s.vm.findClass RX8 = some m.cls := hown
  have hS : va_S A s.heap s.heap [] := va_S.rf
  have hP : va_P D vwCl [] s.heap := hP
  have hD : va_D A [] := hD
  have hl : lv_has ls 3 [(0, .int q0)] := hl
  have w4 : ∀ (x0 : Int32) (x1 : Int32) (x2 : Int32) (t : Int32) (H : Heap) (locs : List Loc) (ls : Array Slot), run (sX8_bits_4 x0) ((x1, x2)) = some t → (fun z => z = r0) t → va_P D vwCl [] H → va_D A [] → va_S A s.heap H locs → lv_has ls 3 [(0, .int x0), (1, .int x1), (2, .int x2)] → W p l e rmX8_bits s m ([.int q0] : List Value).toArray below meth c H locs 0 0 (MQ below (cQi D r0 A []) ([.int q0] : List Value).toArray s 0 0 A) (F0 m 4 ls []) := by
    intro x0
    obtain ⟨F4, eF4⟩ : ∃ F : (Int32 × Int32) → Prop, F = fun q => ∀ (H : Heap) (locs : List Loc) (ls : Array Slot), va_P D vwCl [] H → va_D A [] → va_S A s.heap H locs → lv_has ls 3 [(0, .int x0), (1, .int q.1), (2, .int q.2)] → W p l e rmX8_bits s m ([.int q0] : List Value).toArray below meth c H locs 0 0 (MQ below (cQi D r0 A []) ([.int q0] : List Value).toArray s 0 0 A) (F0 m 4 ls []) := ⟨_, rfl⟩
    have key : ∀ (q : Int32 × Int32) (t : Int32), run (sX8_bits_4 x0) q = some t → (fun z => z = r0) t → F4 q := by
      refine loop_rule (sX8_bits_4 x0) F4 (fun z => z = r0) ?_
      intro q t hf hF
      have hF : (Sum.elim F4 (fun z => z = r0)) t := hF
      rw [eF4]
      obtain ⟨x1, x2⟩ := q
      intro H locs ls hP hD hS hl
      have hP : va_P D vwCl [] H := hP
      have hD : va_D A [] := hD
      have hl : lv_has ls 3 [(0, .int x0), (1, .int x1), (2, .int x2)] := hl
      have hf : bX8_bits_4 x0 x1 x2 = some t := hf
      unfold bX8_bits_4 at hf
      refine lv_iload_n hx hb dX8_bits_4 rfl (lv_at hl 2 rfl) ?_
      refine lv_bipush (v := 12) hx hb dX8_bits_5 (by decide) ?_
      refine lv_icmp_ge (tgt := 24) hx hb dX8_bits_7 (by decide) (fun c1 => ?_) (fun c1 => ?_)
      · have hf := br_pos c1 hf
        refine lv_iload_n hx hb dX8_bits_24 rfl (lv_at hl 1 rfl) ?_
        cases hf
        have hE : x1 = r0 := hF
        subst hE
        exact rtI hx hb hr hlk hP hD hS dX8_bits_25
      · have hf := br_neg c1 hf
        refine lv_iload_n hx hb dX8_bits_10 rfl (lv_at hl 1 rfl) ?_
        refine lv_iload_n hx hb dX8_bits_11 rfl (lv_at hl 0 rfl) ?_
        refine lv_iload_n hx hb dX8_bits_12 rfl (lv_at hl 2 rfl) ?_
        refine lv_ishr hx hb dX8_bits_13 ?_
        refine lv_iconst (v := 1) hx hb dX8_bits_14 (by decide) ?_
        refine lv_iand hx hb dX8_bits_15 ?_
        refine lv_iadd hx hb dX8_bits_16 ?_
        refine lv_topi (fun y2 ey2 => ?_)
        have hf := lt_some hf y2 ey2
        refine lv_istore_n (lv' := [(1, .int y2), (0, .int x0), (2, .int x2)]) hx hb dX8_bits_17 rfl hl (by decide) rfl (fun ls hl => ?_)
        obtain ⟨y3, ey3⟩ : ∃ z : Int32, z = x2 + (1 : Int32) := ⟨_, rfl⟩
        have hf := lt_some hf y3 ey3
        refine lv_iinc (v := y3) (lv' := [(2, .int y3), (1, .int y2), (0, .int x0)]) hx hb dX8_bits_18 hl (k := 2) rfl (by rw [ey3]; rfl) (by decide) rfl (fun ls hl => ?_)
        refine lv_goto (tgt := 4) hx hb dX8_bits_21 (by decide) ?_
        cases hf
        exact ((congrFun eF4 _).mp hF) H locs ls hP hD hS (lv_sub hl [2, 1, 0] rfl)
    intro x1 x2 t H locs ls hf hF hP hD hS hl
    exact ((congrFun eF4 _).mp (key ((x1, x2)) t hf hF)) H locs ls hP hD hS hl
  unfold fX8_bits at hf
  obtain ⟨H, eH⟩ : ∃ z, z = s.heap := ⟨_, rfl⟩
  obtain ⟨locs, eL⟩ : ∃ z : List Loc, z = [] := ⟨_, rfl⟩
  have hP : va_P D vwCl [] H := by rw [eH]; exact hP
  have hS : va_S A s.heap H locs := by rw [eH, eL]; exact hS
  suffices hG : W p l e rmX8_bits s m ([.int q0] : List Value).toArray below meth c H locs 0 0 (MQ below (cQi D r0 A []) ([.int q0] : List Value).toArray s 0 0 A) (F0 m 0 ls []) by rw [eH, eL] at hG; exact hG
  refine lv_iconst (v := 0) hx hb dX8_bits_0 (by decide) ?_
  refine lv_istore_n (lv' := [(1, .int (0 : Int32)), (0, .int q0)]) hx hb dX8_bits_1 rfl hl (by decide) rfl (fun ls hl => ?_)
  refine lv_iconst (v := 0) hx hb dX8_bits_2 (by decide) ?_
  refine lv_istore_n (lv' := [(2, .int (0 : Int32)), (1, .int (0 : Int32)), (0, .int q0)]) hx hb dX8_bits_3 rfl hl (by decide) rfl (fun ls hl => ?_)
  exact w4 q0 (0 : Int32) (0 : Int32) r0 H locs ls hf rfl hP hD hS (lv_sub hl [2, 1, 0] rfl)
abbrev rmX8_isLess : Room := { frames := 1, cells := 0, slots := 0, locals := 22 }
noncomputable def bX8_isLess_41 (x1 : Int32) (x3 : Int32) (x4 : Int32) (g_leastSums : Int32) (g_leastPart : Int32) : Option (Int32) := br (x3 = x4) (bd (fX8_bits x1) (fun u2 => bd (fX8_bits g_leastPart) (fun u3 => br (u2 ≤ u3) (gd ((0 : Int32) = 0 ∨ (0 : Int32) = 1) (some ((0 : Int32)))) (gd ((1 : Int32) = 0 ∨ (1 : Int32) = 1) (some ((1 : Int32))))))) (br (x4 ≤ x3) (gd ((0 : Int32) = 0 ∨ (0 : Int32) = 1) (some ((0 : Int32)))) (gd ((1 : Int32) = 0 ∨ (1 : Int32) = 1) (some ((1 : Int32)))))
noncomputable def bX8_isLess_92 (x1 : Int32) (x5 : Int32) (g_leastSums : Int32) (g_leastPart : Int32) (x6 : Int32) : Option ((Int32) ⊕ (Int32)) := br (((x5 >>> (x6 &&& 31)) &&& (1 : Int32)) = 0) (lt_ (x6 + (1 : Int32)) (fun y14 => some (Sum.inl y14))) (br (((x1 >>> (x6 &&& 31)) &&& (1 : Int32)) = (1 : Int32)) (gd ((1 : Int32) = 0 ∨ (1 : Int32) = 1) (some (Sum.inr ((1 : Int32))))) (gd ((0 : Int32) = 0 ∨ (0 : Int32) = 1) (some (Sum.inr ((0 : Int32))))))
noncomputable def sX8_isLess_92 (x1 : Int32) (x5 : Int32) (g_leastSums : Int32) (g_leastPart : Int32) : (Int32) → Option ((Int32) ⊕ (Int32)) := fun q => bX8_isLess_92 x1 x5 g_leastSums g_leastPart q
noncomputable def fX8_isLess (q1 : Int32) (q2 : Int32) (g_leastSums : Int32) (g_leastPart : Int32) : Option (Int32) := bd (fX8_bits g_leastPart) (fun u15 => lt_ (q2 * u15) (fun y16 => bd (fX8_bits q1) (fun u17 => lt_ (g_leastSums * u17) (fun y18 => br (y16 = y18) (bd (fX8_bits q1) (fun u20 => bd (fX8_bits g_leastPart) (fun u21 => br (u20 = u21) (lt_ (q1 ^^^ g_leastPart) (fun y23 => run (sX8_isLess_92 q1 y23 g_leastSums g_leastPart) (0 : Int32))) (bX8_isLess_41 q1 y16 y18 g_leastSums g_leastPart)))) (bX8_isLess_41 q1 y16 y18 g_leastSums g_leastPart)))))
set_option maxHeartbeats 4000000 in
set_option maxRecDepth 100000 in
theorem cX8_isLess_ct (l : Launch) (D : va_G) (cI cL cC cZ : ClassId) (a_this a_text a_now a_before a_read a_first a_second a_sums a_other a_grid a_order : Nat) (g_length : Int32) (g_undoMany : Int32) (g_spot : Int32) (g_step : Int32) (g_coverMany : Int32) (g_leastSums : Int32) (g_leastPart : Int32) (q1 : Int32) (q2 : Int32) (r0 : Int32) (hf : fX8_isLess q1 q2 g_leastSums g_leastPart = some r0) : CtI l yX8_isLess wsX8_isLess rmX8_isLess D (tyz cI cL cC cZ) [.ref a_this, .int q1, .int q2] [(a_this, .inr (8, [.int g_length, .ref a_text, .ref a_now, .ref a_before, .int g_undoMany, .ref a_read, .int g_spot, .ref a_first, .ref a_second, .ref a_sums, .ref a_other, .int g_step, .int g_coverMany, .ref a_grid, .ref a_order, .int g_leastSums, .int g_leastPart]))] [(a_this, .inr (8, [.int g_length, .ref a_text, .ref a_now, .ref a_before, .int g_undoMany, .ref a_read, .int g_spot, .ref a_first, .ref a_second, .ref a_sums, .ref a_other, .int g_step, .int g_coverMany, .ref a_grid, .ref a_order, .int g_leastSums, .int g_leastPart]))] r0 := by
  refine CtI.make (cc := cX8_isLess) (maxL := 7) (ty := .boolean) (by decide) rfl (Nat.le_of_ble_eq_true rfl) ?_
  intro p e s m below meth c A ls C0 hN hA hP hD hl
  obtain ⟨hx, hb, hr, hml, hown, hts, hlk⟩ := id C0
  have hown : s.vm.findClass RX8 = some m.cls := hown
  have hS : va_S A s.heap s.heap [] := va_S.rf
  have hP : va_P D vwCl [(a_this, .inr (8, [.int g_length, .ref a_text, .ref a_now, .ref a_before, .int g_undoMany, .ref a_read, .int g_spot, .ref a_first, .ref a_second, .ref a_sums, .ref a_other, .int g_step, .int g_coverMany, .ref a_grid, .ref a_order, .int g_leastSums, .int g_leastPart]))] s.heap := hP
  have hD : va_D A [(a_this, .inr (8, [.int g_length, .ref a_text, .ref a_now, .ref a_before, .int g_undoMany, .ref a_read, .int g_spot, .ref a_first, .ref a_second, .ref a_sums, .ref a_other, .int g_step, .int g_coverMany, .ref a_grid, .ref a_order, .int g_leastSums, .int g_leastPart]))] := hD
  have hl : lv_has ls 7 [(0, .ref a_this), (1, .int q1), (2, .int q2)] := hl
  have z1 := va_cwS (R := rmX8_isLess) (rm := rmX8_bits) (mc := 0) (ms := 0) 1 hts gX8_isLess_X8_bits rfl rfl rfl (by decide +kernel) ⟨Nat.le_of_ble_eq_true rfl, Nat.le_of_ble_eq_true rfl⟩
  have z2 : ∀ w ∈ u_ws RX8 TX8 17, w ∈ wsX8_isLess := by decide +kernel
  have z3 := hts (.fieldLink RX8 167 "LittleSumsModel" "leastPart" "I") (by decide +kernel)
  have z4 := hts (.fieldLink RX8 173 "LittleSumsModel" "leastSums" "I") (by decide +kernel)
  have w41 : ∀ (x1 : Int32) (x3 : Int32) (x4 : Int32) (g_leastSums : Int32) (g_leastPart : Int32) (H : Heap) (locs : List Loc) (ls : Array Slot), bX8_isLess_41 x1 x3 x4 g_leastSums g_leastPart = some r0 → va_P D vwCl [(a_this, .inr (8, [.int g_length, .ref a_text, .ref a_now, .ref a_before, .int g_undoMany, .ref a_read, .int g_spot, .ref a_first, .ref a_second, .ref a_sums, .ref a_other, .int g_step, .int g_coverMany, .ref a_grid, .ref a_order, .int g_leastSums, .int g_leastPart]))] H → va_D A [(a_this, .inr (8, [.int g_length, .ref a_text, .ref a_now, .ref a_before, .int g_undoMany, .ref a_read, .int g_spot, .ref a_first, .ref a_second, .ref a_sums, .ref a_other, .int g_step, .int g_coverMany, .ref a_grid, .ref a_order, .int g_leastSums, .int g_leastPart]))] → va_S A s.heap H locs → lv_has ls 7 [(0, .ref a_this), (1, .int x1), (3, .int x3), (4, .int x4)] → W p l e rmX8_isLess s m ([.ref a_this, .int q1, .int q2] : List Value).toArray below meth c H locs 0 0 (MQ below (cQi D r0 A [(a_this, .inr (8, [.int g_length, .ref a_text, .ref a_now, .ref a_before, .int g_undoMany, .ref a_read, .int g_spot, .ref a_first, .ref a_second, .ref a_sums, .ref a_other, .int g_step, .int g_coverMany, .ref a_grid, .ref a_order, .int g_leastSums, .int g_leastPart]))]) ([.ref a_this, .int q1, .int q2] : List Value).toArray s 0 0 A) (F0 m 41 ls []) := by
    intro x1 x3 x4 g_leastSums g_leastPart H locs ls hf hP hD hS hl
    unfold bX8_isLess_41 at hf
    refine lv_iload_n hx hb dX8_isLess_41 rfl (lv_at hl 2 rfl) ?_
    refine lv_iload hx hb dX8_isLess_42 (lv_at hl 3 rfl) ?_
    refine lv_icmp_eq (tgt := 61) hx hb dX8_isLess_44 (by decide) (fun c1 => ?_) (fun c1 => ?_)
    · have hf := br_pos c1 hf
      refine lv_iload_n hx hb dX8_isLess_61 rfl (lv_at hl 1 rfl) ?_
      obtain ⟨u2, hu2, hf⟩ := bd_some hf
      refine caSI (rest := []) (As := [.int x1]) (wr := [(a_this, .inr (8, [.int g_length, .ref a_text, .ref a_now, .ref a_before, .int g_undoMany, .ref a_read, .int g_spot, .ref a_first, .ref a_second, .ref a_sums, .ref a_other, .int g_step, .int g_coverMany, .ref a_grid, .ref a_order, .int g_leastSums, .int g_leastPart]))]) (wo := [(a_this, .inr (8, [.int g_length, .ref a_text, .ref a_now, .ref a_before, .int g_undoMany, .ref a_read, .int g_spot, .ref a_first, .ref a_second, .ref a_sums, .ref a_other, .int g_step, .int g_coverMany, .ref a_grid, .ref a_order, .int g_leastSums, .int g_leastPart]))]) ⟨hx, hb, hml, hown, hts⟩ hN hP hD hS hA (cX8_bits_ct l D cI cL cC cZ x1 u2 hu2) z1 [] [0] [0] rfl (by decide) rfl (by decide) (by decide) rfl (by decide) rfl hl.1 rfl (Nat.le_of_ble_eq_true rfl) dX8_isLess_62 ⟨Nat.zero_le _, Nat.zero_le _⟩ (fun H locs hP hD hS => ?_)
      refine lv_aload_n hx hb dX8_isLess_65 rfl (lv_at hl 0 rfl) ?_
      refine va_get (D := D) (ci := 8) (v := .int g_leastPart) (C := RX8) (T := TX8) (N := 17) hx hb hts z2 hown hN.1 hP 0 rfl rfl 16 (by decide) z3 (fun _ h9 => h9) rfl dX8_isLess_66 ?_
      obtain ⟨u3, hu3, hf⟩ := bd_some hf
      refine caSI (rest := [.int u2]) (As := [.int g_leastPart]) (wr := [(a_this, .inr (8, [.int g_length, .ref a_text, .ref a_now, .ref a_before, .int g_undoMany, .ref a_read, .int g_spot, .ref a_first, .ref a_second, .ref a_sums, .ref a_other, .int g_step, .int g_coverMany, .ref a_grid, .ref a_order, .int g_leastSums, .int g_leastPart]))]) (wo := [(a_this, .inr (8, [.int g_length, .ref a_text, .ref a_now, .ref a_before, .int g_undoMany, .ref a_read, .int g_spot, .ref a_first, .ref a_second, .ref a_sums, .ref a_other, .int g_step, .int g_coverMany, .ref a_grid, .ref a_order, .int g_leastSums, .int g_leastPart]))]) ⟨hx, hb, hml, hown, hts⟩ hN hP hD hS hA (cX8_bits_ct l D cI cL cC cZ g_leastPart u3 hu3) z1 [] [0] [0] rfl (by decide) rfl (by decide) (by decide) rfl (by decide) rfl hl.1 rfl (Nat.le_of_ble_eq_true rfl) dX8_isLess_69 ⟨Nat.zero_le _, Nat.zero_le _⟩ (fun H locs hP hD hS => ?_)
      refine lv_icmp_le (tgt := 79) hx hb dX8_isLess_72 (by decide) (fun c4 => ?_) (fun c4 => ?_)
      · have hf := br_pos c4 hf
        refine lv_iconst (v := 0) hx hb dX8_isLess_79 (by decide) ?_
        obtain ⟨c5, hf⟩ := gd_some hf
        have hE : (0 : Int32) = r0 := Option.some.inj hf
        subst hE
        exact rtZ hx hb hr hlk c5 hP hD hS dX8_isLess_80
      · have hf := br_neg c4 hf
        refine lv_iconst (v := 1) hx hb dX8_isLess_75 (by decide) ?_
        refine lv_goto (tgt := 80) hx hb dX8_isLess_76 (by decide) ?_
        obtain ⟨c6, hf⟩ := gd_some hf
        have hE : (1 : Int32) = r0 := Option.some.inj hf
        subst hE
        exact rtZ hx hb hr hlk c6 hP hD hS dX8_isLess_80
    · have hf := br_neg c1 hf
      refine lv_iload_n hx hb dX8_isLess_47 rfl (lv_at hl 2 rfl) ?_
      refine lv_iload hx hb dX8_isLess_48 (lv_at hl 3 rfl) ?_
      refine lv_icmp_ge (tgt := 57) hx hb dX8_isLess_50 (by decide) (fun c7 => ?_) (fun c7 => ?_)
      · have hf := br_pos c7 hf
        refine lv_iconst (v := 0) hx hb dX8_isLess_57 (by decide) ?_
        refine lv_goto (tgt := 80) hx hb dX8_isLess_58 (by decide) ?_
        obtain ⟨c8, hf⟩ := gd_some hf
        have hE : (0 : Int32) = r0 := Option.some.inj hf
        subst hE
        exact rtZ hx hb hr hlk c8 hP hD hS dX8_isLess_80
      · have hf := br_neg c7 hf
        refine lv_iconst (v := 1) hx hb dX8_isLess_53 (by decide) ?_
        refine lv_goto (tgt := 80) hx hb dX8_isLess_54 (by decide) ?_
        obtain ⟨c9, hf⟩ := gd_some hf
        have hE : (1 : Int32) = r0 := Option.some.inj hf
        subst hE
        exact rtZ hx hb hr hlk c9 hP hD hS dX8_isLess_80
  have w92 : ∀ (x1 : Int32) (x5 : Int32) (g_leastSums : Int32) (g_leastPart : Int32) (x6 : Int32) (t : Int32) (H : Heap) (locs : List Loc) (ls : Array Slot), run (sX8_isLess_92 x1 x5 g_leastSums g_leastPart) x6 = some t → (fun z => z = r0) t → va_P D vwCl [(a_this, .inr (8, [.int g_length, .ref a_text, .ref a_now, .ref a_before, .int g_undoMany, .ref a_read, .int g_spot, .ref a_first, .ref a_second, .ref a_sums, .ref a_other, .int g_step, .int g_coverMany, .ref a_grid, .ref a_order, .int g_leastSums, .int g_leastPart]))] H → va_D A [(a_this, .inr (8, [.int g_length, .ref a_text, .ref a_now, .ref a_before, .int g_undoMany, .ref a_read, .int g_spot, .ref a_first, .ref a_second, .ref a_sums, .ref a_other, .int g_step, .int g_coverMany, .ref a_grid, .ref a_order, .int g_leastSums, .int g_leastPart]))] → va_S A s.heap H locs → lv_has ls 7 [(1, .int x1), (5, .int x5), (6, .int x6)] → W p l e rmX8_isLess s m ([.ref a_this, .int q1, .int q2] : List Value).toArray below meth c H locs 0 0 (MQ below (cQi D r0 A [(a_this, .inr (8, [.int g_length, .ref a_text, .ref a_now, .ref a_before, .int g_undoMany, .ref a_read, .int g_spot, .ref a_first, .ref a_second, .ref a_sums, .ref a_other, .int g_step, .int g_coverMany, .ref a_grid, .ref a_order, .int g_leastSums, .int g_leastPart]))]) ([.ref a_this, .int q1, .int q2] : List Value).toArray s 0 0 A) (F0 m 92 ls []) := by
    intro x1 x5 g_leastSums g_leastPart
    obtain ⟨F92, eF92⟩ : ∃ F : (Int32) → Prop, F = fun q => ∀ (H : Heap) (locs : List Loc) (ls : Array Slot), va_P D vwCl [(a_this, .inr (8, [.int g_length, .ref a_text, .ref a_now, .ref a_before, .int g_undoMany, .ref a_read, .int g_spot, .ref a_first, .ref a_second, .ref a_sums, .ref a_other, .int g_step, .int g_coverMany, .ref a_grid, .ref a_order, .int g_leastSums, .int g_leastPart]))] H → va_D A [(a_this, .inr (8, [.int g_length, .ref a_text, .ref a_now, .ref a_before, .int g_undoMany, .ref a_read, .int g_spot, .ref a_first, .ref a_second, .ref a_sums, .ref a_other, .int g_step, .int g_coverMany, .ref a_grid, .ref a_order, .int g_leastSums, .int g_leastPart]))] → va_S A s.heap H locs → lv_has ls 7 [(1, .int x1), (5, .int x5), (6, .int q)] → W p l e rmX8_isLess s m ([.ref a_this, .int q1, .int q2] : List Value).toArray below meth c H locs 0 0 (MQ below (cQi D r0 A [(a_this, .inr (8, [.int g_length, .ref a_text, .ref a_now, .ref a_before, .int g_undoMany, .ref a_read, .int g_spot, .ref a_first, .ref a_second, .ref a_sums, .ref a_other, .int g_step, .int g_coverMany, .ref a_grid, .ref a_order, .int g_leastSums, .int g_leastPart]))]) ([.ref a_this, .int q1, .int q2] : List Value).toArray s 0 0 A) (F0 m 92 ls []) := ⟨_, rfl⟩
    have key : ∀ (q : Int32) (t : Int32), run (sX8_isLess_92 x1 x5 g_leastSums g_leastPart) q = some t → (fun z => z = r0) t → F92 q := by
      refine loop_rule (sX8_isLess_92 x1 x5 g_leastSums g_leastPart) F92 (fun z => z = r0) ?_
      intro q t hf hF
      have hF : (Sum.elim F92 (fun z => z = r0)) t := hF
      rw [eF92]
      obtain ⟨x6, rfl⟩ : ∃ z, z = q := ⟨_, rfl⟩
      intro H locs ls hP hD hS hl
      have hP : va_P D vwCl [(a_this, .inr (8, [.int g_length, .ref a_text, .ref a_now, .ref a_before, .int g_undoMany, .ref a_read, .int g_spot, .ref a_first, .ref a_second, .ref a_sums, .ref a_other, .int g_step, .int g_coverMany, .ref a_grid, .ref a_order, .int g_leastSums, .int g_leastPart]))] H := hP
      have hD : va_D A [(a_this, .inr (8, [.int g_length, .ref a_text, .ref a_now, .ref a_before, .int g_undoMany, .ref a_read, .int g_spot, .ref a_first, .ref a_second, .ref a_sums, .ref a_other, .int g_step, .int g_coverMany, .ref a_grid, .ref a_order, .int g_leastSums, .int g_leastPart]))] := hD
      have hl : lv_has ls 7 [(1, .int x1), (5, .int x5), (6, .int x6)] := hl
      have hf : bX8_isLess_92 x1 x5 g_leastSums g_leastPart x6 = some t := hf
      unfold bX8_isLess_92 at hf
      refine lv_iload hx hb dX8_isLess_92 (lv_at hl 1 rfl) ?_
      refine lv_iload hx hb dX8_isLess_94 (lv_at hl 2 rfl) ?_
      refine lv_ishr hx hb dX8_isLess_96 ?_
      refine lv_iconst (v := 1) hx hb dX8_isLess_97 (by decide) ?_
      refine lv_iand hx hb dX8_isLess_98 ?_
      refine lv_if_ne (tgt := 108) hx hb dX8_isLess_99 (by decide) (fun c10 => ?_) (fun c10 => ?_)
      · have hf := br_neg c10 hf
        refine lv_iload_n hx hb dX8_isLess_108 rfl (lv_at hl 0 rfl) ?_
        refine lv_iload hx hb dX8_isLess_109 (lv_at hl 2 rfl) ?_
        refine lv_ishr hx hb dX8_isLess_111 ?_
        refine lv_iconst (v := 1) hx hb dX8_isLess_112 (by decide) ?_
        refine lv_iand hx hb dX8_isLess_113 ?_
        refine lv_iconst (v := 1) hx hb dX8_isLess_114 (by decide) ?_
        refine lv_icmp_ne (tgt := 122) hx hb dX8_isLess_115 (by decide) (fun c11 => ?_) (fun c11 => ?_)
        · have hf := br_neg c11 hf
          refine lv_iconst (v := 0) hx hb dX8_isLess_122 (by decide) ?_
          obtain ⟨c12, hf⟩ := gd_some hf
          cases hf
          have hE : (0 : Int32) = r0 := hF
          subst hE
          exact rtZ hx hb hr hlk c12 hP hD hS dX8_isLess_123
        · have hf := br_pos c11 hf
          refine lv_iconst (v := 1) hx hb dX8_isLess_118 (by decide) ?_
          refine lv_goto (tgt := 123) hx hb dX8_isLess_119 (by decide) ?_
          obtain ⟨c13, hf⟩ := gd_some hf
          cases hf
          have hE : (1 : Int32) = r0 := hF
          subst hE
          exact rtZ hx hb hr hlk c13 hP hD hS dX8_isLess_123
      · have hf := br_pos c10 hf
        obtain ⟨y14, ey14⟩ : ∃ z : Int32, z = x6 + (1 : Int32) := ⟨_, rfl⟩
        have hf := lt_some hf y14 ey14
        refine lv_iinc (v := y14) (lv' := [(6, .int y14), (1, .int x1), (5, .int x5)]) hx hb dX8_isLess_102 hl (k := 2) rfl (by rw [ey14]; rfl) (by decide) rfl (fun ls hl => ?_)
        refine lv_goto (tgt := 92) hx hb dX8_isLess_105 (by decide) ?_
        cases hf
        exact ((congrFun eF92 _).mp hF) H locs ls hP hD hS (lv_sub hl [1, 2, 0] rfl)
    intro x6 t H locs ls hf hF hP hD hS hl
    exact ((congrFun eF92 _).mp (key x6 t hf hF)) H locs ls hP hD hS hl
  unfold fX8_isLess at hf
  obtain ⟨H, eH⟩ : ∃ z, z = s.heap := ⟨_, rfl⟩
  obtain ⟨locs, eL⟩ : ∃ z : List Loc, z = [] := ⟨_, rfl⟩
  have hP : va_P D vwCl [(a_this, .inr (8, [.int g_length, .ref a_text, .ref a_now, .ref a_before, .int g_undoMany, .ref a_read, .int g_spot, .ref a_first, .ref a_second, .ref a_sums, .ref a_other, .int g_step, .int g_coverMany, .ref a_grid, .ref a_order, .int g_leastSums, .int g_leastPart]))] H := by rw [eH]; exact hP
  have hS : va_S A s.heap H locs := by rw [eH, eL]; exact hS
  suffices hG : W p l e rmX8_isLess s m ([.ref a_this, .int q1, .int q2] : List Value).toArray below meth c H locs 0 0 (MQ below (cQi D r0 A [(a_this, .inr (8, [.int g_length, .ref a_text, .ref a_now, .ref a_before, .int g_undoMany, .ref a_read, .int g_spot, .ref a_first, .ref a_second, .ref a_sums, .ref a_other, .int g_step, .int g_coverMany, .ref a_grid, .ref a_order, .int g_leastSums, .int g_leastPart]))]) ([.ref a_this, .int q1, .int q2] : List Value).toArray s 0 0 A) (F0 m 0 ls []) by rw [eH, eL] at hG; exact hG
  refine lv_iload_n hx hb dX8_isLess_0 rfl (lv_at hl 2 rfl) ?_
  refine lv_aload_n hx hb dX8_isLess_1 rfl (lv_at hl 0 rfl) ?_
  refine va_get (D := D) (ci := 8) (v := .int g_leastPart) (C := RX8) (T := TX8) (N := 17) hx hb hts z2 hown hN.1 hP 0 rfl rfl 16 (by decide) z3 (fun _ h9 => h9) rfl dX8_isLess_2 ?_
  obtain ⟨u15, hu15, hf⟩ := bd_some hf
  refine caSI (rest := [.int q2]) (As := [.int g_leastPart]) (wr := [(a_this, .inr (8, [.int g_length, .ref a_text, .ref a_now, .ref a_before, .int g_undoMany, .ref a_read, .int g_spot, .ref a_first, .ref a_second, .ref a_sums, .ref a_other, .int g_step, .int g_coverMany, .ref a_grid, .ref a_order, .int g_leastSums, .int g_leastPart]))]) (wo := [(a_this, .inr (8, [.int g_length, .ref a_text, .ref a_now, .ref a_before, .int g_undoMany, .ref a_read, .int g_spot, .ref a_first, .ref a_second, .ref a_sums, .ref a_other, .int g_step, .int g_coverMany, .ref a_grid, .ref a_order, .int g_leastSums, .int g_leastPart]))]) ⟨hx, hb, hml, hown, hts⟩ hN hP hD hS hA (cX8_bits_ct l D cI cL cC cZ g_leastPart u15 hu15) z1 [] [0] [0] rfl (by decide) rfl (by decide) (by decide) rfl (by decide) rfl hl.1 rfl (Nat.le_of_ble_eq_true rfl) dX8_isLess_5 ⟨Nat.zero_le _, Nat.zero_le _⟩ (fun H locs hP hD hS => ?_)
  refine lv_imul hx hb dX8_isLess_8 ?_
  refine lv_topi (fun y16 ey16 => ?_)
  have hf := lt_some hf y16 ey16
  refine lv_istore_n (lv' := [(3, .int y16), (0, .ref a_this), (1, .int q1), (2, .int q2)]) hx hb dX8_isLess_9 rfl hl (by decide) rfl (fun ls hl => ?_)
  refine lv_aload_n hx hb dX8_isLess_10 rfl (lv_at hl 1 rfl) ?_
  refine va_get (D := D) (ci := 8) (v := .int g_leastSums) (C := RX8) (T := TX8) (N := 17) hx hb hts z2 hown hN.1 hP 0 rfl rfl 15 (by decide) z4 (fun _ h9 => h9) rfl dX8_isLess_11 ?_
  refine lv_iload_n hx hb dX8_isLess_14 rfl (lv_at hl 2 rfl) ?_
  obtain ⟨u17, hu17, hf⟩ := bd_some hf
  refine caSI (rest := [.int g_leastSums]) (As := [.int q1]) (wr := [(a_this, .inr (8, [.int g_length, .ref a_text, .ref a_now, .ref a_before, .int g_undoMany, .ref a_read, .int g_spot, .ref a_first, .ref a_second, .ref a_sums, .ref a_other, .int g_step, .int g_coverMany, .ref a_grid, .ref a_order, .int g_leastSums, .int g_leastPart]))]) (wo := [(a_this, .inr (8, [.int g_length, .ref a_text, .ref a_now, .ref a_before, .int g_undoMany, .ref a_read, .int g_spot, .ref a_first, .ref a_second, .ref a_sums, .ref a_other, .int g_step, .int g_coverMany, .ref a_grid, .ref a_order, .int g_leastSums, .int g_leastPart]))]) ⟨hx, hb, hml, hown, hts⟩ hN hP hD hS hA (cX8_bits_ct l D cI cL cC cZ q1 u17 hu17) z1 [] [0] [0] rfl (by decide) rfl (by decide) (by decide) rfl (by decide) rfl hl.1 rfl (Nat.le_of_ble_eq_true rfl) dX8_isLess_15 ⟨Nat.zero_le _, Nat.zero_le _⟩ (fun H locs hP hD hS => ?_)
  refine lv_imul hx hb dX8_isLess_18 ?_
  refine lv_topi (fun y18 ey18 => ?_)
  have hf := lt_some hf y18 ey18
  refine lv_istore (lv' := [(4, .int y18), (3, .int y16), (0, .ref a_this), (1, .int q1), (2, .int q2)]) hx hb dX8_isLess_19 hl (by decide) rfl (fun ls hl => ?_)
  refine lv_iload_n hx hb dX8_isLess_21 rfl (lv_at hl 1 rfl) ?_
  refine lv_iload hx hb dX8_isLess_22 (lv_at hl 0 rfl) ?_
  refine lv_icmp_ne (tgt := 41) hx hb dX8_isLess_24 (by decide) (fun c19 => ?_) (fun c19 => ?_)
  · have hf := br_neg c19 hf
    exact w41 q1 y16 y18 g_leastSums g_leastPart H locs ls hf hP hD hS (lv_sub hl [2, 3, 1, 0] rfl)
  · have hf := br_pos c19 hf
    refine lv_iload_n hx hb dX8_isLess_27 rfl (lv_at hl 3 rfl) ?_
    obtain ⟨u20, hu20, hf⟩ := bd_some hf
    refine caSI (rest := []) (As := [.int q1]) (wr := [(a_this, .inr (8, [.int g_length, .ref a_text, .ref a_now, .ref a_before, .int g_undoMany, .ref a_read, .int g_spot, .ref a_first, .ref a_second, .ref a_sums, .ref a_other, .int g_step, .int g_coverMany, .ref a_grid, .ref a_order, .int g_leastSums, .int g_leastPart]))]) (wo := [(a_this, .inr (8, [.int g_length, .ref a_text, .ref a_now, .ref a_before, .int g_undoMany, .ref a_read, .int g_spot, .ref a_first, .ref a_second, .ref a_sums, .ref a_other, .int g_step, .int g_coverMany, .ref a_grid, .ref a_order, .int g_leastSums, .int g_leastPart]))]) ⟨hx, hb, hml, hown, hts⟩ hN hP hD hS hA (cX8_bits_ct l D cI cL cC cZ q1 u20 hu20) z1 [] [0] [0] rfl (by decide) rfl (by decide) (by decide) rfl (by decide) rfl hl.1 rfl (Nat.le_of_ble_eq_true rfl) dX8_isLess_28 ⟨Nat.zero_le _, Nat.zero_le _⟩ (fun H locs hP hD hS => ?_)
    refine lv_aload_n hx hb dX8_isLess_31 rfl (lv_at hl 2 rfl) ?_
    refine va_get (D := D) (ci := 8) (v := .int g_leastPart) (C := RX8) (T := TX8) (N := 17) hx hb hts z2 hown hN.1 hP 0 rfl rfl 16 (by decide) z3 (fun _ h9 => h9) rfl dX8_isLess_32 ?_
    obtain ⟨u21, hu21, hf⟩ := bd_some hf
    refine caSI (rest := [.int u20]) (As := [.int g_leastPart]) (wr := [(a_this, .inr (8, [.int g_length, .ref a_text, .ref a_now, .ref a_before, .int g_undoMany, .ref a_read, .int g_spot, .ref a_first, .ref a_second, .ref a_sums, .ref a_other, .int g_step, .int g_coverMany, .ref a_grid, .ref a_order, .int g_leastSums, .int g_leastPart]))]) (wo := [(a_this, .inr (8, [.int g_length, .ref a_text, .ref a_now, .ref a_before, .int g_undoMany, .ref a_read, .int g_spot, .ref a_first, .ref a_second, .ref a_sums, .ref a_other, .int g_step, .int g_coverMany, .ref a_grid, .ref a_order, .int g_leastSums, .int g_leastPart]))]) ⟨hx, hb, hml, hown, hts⟩ hN hP hD hS hA (cX8_bits_ct l D cI cL cC cZ g_leastPart u21 hu21) z1 [] [0] [0] rfl (by decide) rfl (by decide) (by decide) rfl (by decide) rfl hl.1 rfl (Nat.le_of_ble_eq_true rfl) dX8_isLess_35 ⟨Nat.zero_le _, Nat.zero_le _⟩ (fun H locs hP hD hS => ?_)
    refine lv_icmp_eq (tgt := 81) hx hb dX8_isLess_38 (by decide) (fun c22 => ?_) (fun c22 => ?_)
    · have hf := br_pos c22 hf
      refine lv_iload_n hx hb dX8_isLess_81 rfl (lv_at hl 3 rfl) ?_
      refine lv_aload_n hx hb dX8_isLess_82 rfl (lv_at hl 2 rfl) ?_
      refine va_get (D := D) (ci := 8) (v := .int g_leastPart) (C := RX8) (T := TX8) (N := 17) hx hb hts z2 hown hN.1 hP 0 rfl rfl 16 (by decide) z3 (fun _ h9 => h9) rfl dX8_isLess_83 ?_
      refine lv_ixor hx hb dX8_isLess_86 ?_
      refine lv_topi (fun y23 ey23 => ?_)
      have hf := lt_some hf y23 ey23
      refine lv_istore (lv' := [(5, .int y23), (4, .int y18), (3, .int y16), (0, .ref a_this), (1, .int q1), (2, .int q2)]) hx hb dX8_isLess_87 hl (by decide) rfl (fun ls hl => ?_)
      refine lv_iconst (v := 0) hx hb dX8_isLess_89 (by decide) ?_
      refine lv_istore (lv' := [(6, .int (0 : Int32)), (5, .int y23), (4, .int y18), (3, .int y16), (0, .ref a_this), (1, .int q1), (2, .int q2)]) hx hb dX8_isLess_90 hl (by decide) rfl (fun ls hl => ?_)
      exact w92 q1 y23 g_leastSums g_leastPart (0 : Int32) r0 H locs ls hf rfl hP hD hS (lv_sub hl [5, 1, 0] rfl)
    · have hf := br_neg c22 hf
      exact w41 q1 y16 y18 g_leastSums g_leastPart H locs ls hf hP hD hS (lv_sub hl [2, 3, 1, 0] rfl)
abbrev rmX8_findLeast : Room := { frames := 2, cells := 0, slots := 0, locals := 48 }
noncomputable def bX8_findLeast_95 (x3 : Int32) (x4 : Int32) (x5 : Int32) (g_leastSums : Int32) (g_leastPart : Int32) (g_now : Nat → Int32) (g_first : Nat → Int32) (g_second : Nat → Int32) (g_sums : Nat → Int32) : Option ((Int32 × Int32 × Int32 × (Nat → Int32)) ⊕ (Int32 × Int32 × Int32 × (Nat → Int32) × (Nat → Int32) × (Nat → Int32))) := lt_ (x5 + (1 : Int32)) (fun y1 => some (Sum.inl ((y1, g_leastSums, g_leastPart, g_sums))))
noncomputable def bX8_findLeast_83 (x3 : Int32) (x4 : Int32) (x5 : Int32) (x6 : Int32) (g_leastSums : Int32) (g_leastPart : Int32) (g_now : Nat → Int32) (g_first : Nat → Int32) (g_second : Nat → Int32) (g_sums : Nat → Int32) : Option ((Int32 × Int32 × Int32 × (Nat → Int32)) ⊕ (Int32 × Int32 × Int32 × (Nat → Int32) × (Nat → Int32) × (Nat → Int32))) := bX8_findLeast_95 x3 x4 x5 x6 x5 g_now g_first g_second g_sums
noncomputable def bX8_findLeast_46 (x3 : Int32) (x4 : Int32) (g_now : Nat → Int32) (g_first : Nat → Int32) (g_second : Nat → Int32) (x5 : Int32) (g_leastSums : Int32) (g_leastPart : Int32) (g_sums : Nat → Int32) : Option ((Int32 × Int32 × Int32 × (Nat → Int32)) ⊕ (Int32 × Int32 × Int32 × (Nat → Int32) × (Nat → Int32) × (Nat → Int32))) := br (((1 : Int32) <<< (x3 &&& 31)) ≤ x5) (gd ((1 : Int32) = 0 ∨ (1 : Int32) = 1) (some (Sum.inr (((1 : Int32), g_leastSums, g_leastPart, g_first, g_second, g_sums))))) (bd (fX8_partSums x5 x3 x4 g_first g_second g_sums) (fun u4 => br (g_leastPart = 0) (bX8_findLeast_83 x3 x4 x5 u4.1 g_leastSums g_leastPart g_now g_first g_second u4.2) (bd (fX8_isLess x5 u4.1 g_leastSums g_leastPart) (fun u6 => br (u6 = 0) (bX8_findLeast_95 x3 x4 x5 g_leastSums g_leastPart g_now g_first g_second u4.2) (bX8_findLeast_83 x3 x4 x5 u4.1 g_leastSums g_leastPart g_now g_first g_second u4.2)))))
noncomputable def sX8_findLeast_46 (x3 : Int32) (x4 : Int32) (g_now : Nat → Int32) (g_first : Nat → Int32) (g_second : Nat → Int32) : (Int32 × Int32 × Int32 × (Nat → Int32)) → Option ((Int32 × Int32 × Int32 × (Nat → Int32)) ⊕ (Int32 × Int32 × Int32 × (Nat → Int32) × (Nat → Int32) × (Nat → Int32))) := fun q => bX8_findLeast_46 x3 x4 g_now g_first g_second q.1 q.2.1 q.2.2.1 q.2.2.2
noncomputable def fX8_findLeast (q1 : Int32) (q2 : Int32) (g_leastSums : Int32) (g_leastPart : Int32) (g_now : Nat → Int32) (g_first : Nat → Int32) (g_second : Nat → Int32) (g_sums : Nat → Int32) : Option (Int32 × Int32 × Int32 × (Nat → Int32) × (Nat → Int32) × (Nat → Int32)) := bd (fX8_lists q1 41 g_now g_first) (fun u8 => bd (fX8_lists q2 41 g_now g_second) (fun u9 => br (u8.1 = 0) (gd ((0 : Int32) = 0 ∨ (0 : Int32) = 1) (some (((0 : Int32), g_leastSums, g_leastPart, u8.2, u9.2, g_sums)))) (br (u9.1 = 0) (gd ((0 : Int32) = 0 ∨ (0 : Int32) = 1) (some (((0 : Int32), g_leastSums, g_leastPart, u8.2, u9.2, g_sums)))) (br (u8.1 ≤ (12 : Int32)) (run (sX8_findLeast_46 u8.1 u9.1 g_now u8.2 u9.2) (((1 : Int32), g_leastSums, (0 : Int32), g_sums))) (gd ((0 : Int32) = 0 ∨ (0 : Int32) = 1) (some (((0 : Int32), g_leastSums, g_leastPart, u8.2, u9.2, g_sums))))))))
set_option maxHeartbeats 4000000 in
set_option maxRecDepth 100000 in
theorem cX8_findLeast_ct (l : Launch) (D : va_G) (cI cL cC cZ : ClassId) (a_this a_text a_now a_before a_read a_first a_second a_sums a_other a_grid a_order : Nat) (g_length : Int32) (g_undoMany : Int32) (g_spot : Int32) (g_step : Int32) (g_coverMany : Int32) (g_leastSums : Int32) (g_leastPart : Int32) (g_now : Nat → Int32) (g_first : Nat → Int32) (g_second : Nat → Int32) (g_sums : Nat → Int32) (q1 : Int32) (q2 : Int32) (r0 : Int32) (v_leastSums : Int32) (v_leastPart : Int32) (v_first : Nat → Int32) (v_second : Nat → Int32) (v_sums : Nat → Int32) (hf : fX8_findLeast q1 q2 g_leastSums g_leastPart g_now g_first g_second g_sums = some ((r0, v_leastSums, v_leastPart, v_first, v_second, v_sums))) : CtI l yX8_findLeast wsX8_findLeast rmX8_findLeast D (tyz cI cL cC cZ) [.ref a_this, .int q1, .int q2] [(a_this, .inr (8, [.int g_length, .ref a_text, .ref a_now, .ref a_before, .int g_undoMany, .ref a_read, .int g_spot, .ref a_first, .ref a_second, .ref a_sums, .ref a_other, .int g_step, .int g_coverMany, .ref a_grid, .ref a_order, .int g_leastSums, .int g_leastPart])), (a_now, .inl (cZ, 164, .inl g_now)), (a_first, .inl (cI, 41, .inl g_first)), (a_second, .inl (cI, 41, .inl g_second)), (a_sums, .inl (cZ, 241, .inl g_sums))] [(a_this, .inr (8, [.int g_length, .ref a_text, .ref a_now, .ref a_before, .int g_undoMany, .ref a_read, .int g_spot, .ref a_first, .ref a_second, .ref a_sums, .ref a_other, .int g_step, .int g_coverMany, .ref a_grid, .ref a_order, .int v_leastSums, .int v_leastPart])), (a_now, .inl (cZ, 164, .inl g_now)), (a_first, .inl (cI, 41, .inl v_first)), (a_second, .inl (cI, 41, .inl v_second)), (a_sums, .inl (cZ, 241, .inl v_sums))] r0 := by
  refine CtI.make (cc := cX8_findLeast) (maxL := 7) (ty := .boolean) (by decide) rfl (Nat.le_of_ble_eq_true rfl) ?_
  intro p e s m below meth c A ls C0 hN hA hP hD hl
  obtain ⟨hx, hb, hr, hml, hown, hts, hlk⟩ := id C0
  have hown : s.vm.findClass RX8 = some m.cls := hown
  have hS : va_S A s.heap s.heap [] := va_S.rf
  have hP : va_P D vwCl [(a_this, .inr (8, [.int g_length, .ref a_text, .ref a_now, .ref a_before, .int g_undoMany, .ref a_read, .int g_spot, .ref a_first, .ref a_second, .ref a_sums, .ref a_other, .int g_step, .int g_coverMany, .ref a_grid, .ref a_order, .int g_leastSums, .int g_leastPart])), (a_now, .inl (cZ, 164, .inl g_now)), (a_first, .inl (cI, 41, .inl g_first)), (a_second, .inl (cI, 41, .inl g_second)), (a_sums, .inl (cZ, 241, .inl g_sums))] s.heap := hP
  have hD : va_D A [(a_this, .inr (8, [.int g_length, .ref a_text, .ref a_now, .ref a_before, .int g_undoMany, .ref a_read, .int g_spot, .ref a_first, .ref a_second, .ref a_sums, .ref a_other, .int g_step, .int g_coverMany, .ref a_grid, .ref a_order, .int g_leastSums, .int g_leastPart])), (a_now, .inl (cZ, 164, .inl g_now)), (a_first, .inl (cI, 41, .inl g_first)), (a_second, .inl (cI, 41, .inl g_second)), (a_sums, .inl (cZ, 241, .inl g_sums))] := hD
  have hl : lv_has ls 7 [(0, .ref a_this), (1, .int q1), (2, .int q2)] := hl
  have z1 : ∀ w ∈ u_ws RX8 TX8 17, w ∈ wsX8_findLeast := by decide +kernel
  have z2 := hts (.fieldLink RX8 167 "LittleSumsModel" "leastPart" "I") (by decide +kernel)
  have z3 := hts (.fieldLink RX8 173 "LittleSumsModel" "leastSums" "I") (by decide +kernel)
  have z4 := cwV (R := rmX8_findLeast) (rm := rmX8_partSums) (mc := 0) (ms := 0) 3 hts gX8_findLeast_X8_partSums rfl rfl rfl (by decide +kernel) ⟨Nat.le_of_ble_eq_true rfl, Nat.le_of_ble_eq_true rfl⟩
  have z5 := cwV (R := rmX8_findLeast) (rm := rmX8_isLess) (mc := 0) (ms := 0) 2 hts gX8_findLeast_X8_isLess rfl rfl rfl (by decide +kernel) ⟨Nat.le_of_ble_eq_true rfl, Nat.le_of_ble_eq_true rfl⟩
  have z6 := hts (.fieldLink RX8 23 "LittleSumsModel" "first" "[I") (by decide +kernel)
  have z7 := cwV (R := rmX8_findLeast) (rm := rmX8_lists) (mc := 0) (ms := 0) 2 hts gX8_findLeast_X8_lists rfl rfl rfl (by decide +kernel) ⟨Nat.le_of_ble_eq_true rfl, Nat.le_of_ble_eq_true rfl⟩
  have z8 := hts (.fieldLink RX8 26 "LittleSumsModel" "second" "[I") (by decide +kernel)
  have w46 : ∀ (x3 : Int32) (x4 : Int32) (g_now : Nat → Int32) (g_first : Nat → Int32) (g_second : Nat → Int32) (x5 : Int32) (g_leastSums : Int32) (g_leastPart : Int32) (g_sums : Nat → Int32) (t : Int32 × Int32 × Int32 × (Nat → Int32) × (Nat → Int32) × (Nat → Int32)) (H : Heap) (locs : List Loc) (ls : Array Slot), run (sX8_findLeast_46 x3 x4 g_now g_first g_second) ((x5, g_leastSums, g_leastPart, g_sums)) = some t → (fun z => z = (r0, v_leastSums, v_leastPart, v_first, v_second, v_sums)) t → va_P D vwCl [(a_this, .inr (8, [.int g_length, .ref a_text, .ref a_now, .ref a_before, .int g_undoMany, .ref a_read, .int g_spot, .ref a_first, .ref a_second, .ref a_sums, .ref a_other, .int g_step, .int g_coverMany, .ref a_grid, .ref a_order, .int g_leastSums, .int g_leastPart])), (a_now, .inl (cZ, 164, .inl g_now)), (a_first, .inl (cI, 41, .inl g_first)), (a_second, .inl (cI, 41, .inl g_second)), (a_sums, .inl (cZ, 241, .inl g_sums))] H → va_D A [(a_this, .inr (8, [.int g_length, .ref a_text, .ref a_now, .ref a_before, .int g_undoMany, .ref a_read, .int g_spot, .ref a_first, .ref a_second, .ref a_sums, .ref a_other, .int g_step, .int g_coverMany, .ref a_grid, .ref a_order, .int g_leastSums, .int g_leastPart])), (a_now, .inl (cZ, 164, .inl g_now)), (a_first, .inl (cI, 41, .inl g_first)), (a_second, .inl (cI, 41, .inl g_second)), (a_sums, .inl (cZ, 241, .inl g_sums))] → va_S A s.heap H locs → lv_has ls 7 [(0, .ref a_this), (3, .int x3), (4, .int x4), (5, .int x5)] → W p l e rmX8_findLeast s m ([.ref a_this, .int q1, .int q2] : List Value).toArray below meth c H locs 0 0 (MQ below (cQi D r0 A [(a_this, .inr (8, [.int g_length, .ref a_text, .ref a_now, .ref a_before, .int g_undoMany, .ref a_read, .int g_spot, .ref a_first, .ref a_second, .ref a_sums, .ref a_other, .int g_step, .int g_coverMany, .ref a_grid, .ref a_order, .int v_leastSums, .int v_leastPart])), (a_now, .inl (cZ, 164, .inl g_now)), (a_first, .inl (cI, 41, .inl v_first)), (a_second, .inl (cI, 41, .inl v_second)), (a_sums, .inl (cZ, 241, .inl v_sums))]) ([.ref a_this, .int q1, .int q2] : List Value).toArray s 0 0 A) (F0 m 46 ls []) := by
    intro x3 x4 g_now g_first g_second
    obtain ⟨F46, eF46⟩ : ∃ F : (Int32 × Int32 × Int32 × (Nat → Int32)) → Prop, F = fun q => ∀ (H : Heap) (locs : List Loc) (ls : Array Slot), va_P D vwCl [(a_this, .inr (8, [.int g_length, .ref a_text, .ref a_now, .ref a_before, .int g_undoMany, .ref a_read, .int g_spot, .ref a_first, .ref a_second, .ref a_sums, .ref a_other, .int g_step, .int g_coverMany, .ref a_grid, .ref a_order, .int q.2.1, .int q.2.2.1])), (a_now, .inl (cZ, 164, .inl g_now)), (a_first, .inl (cI, 41, .inl g_first)), (a_second, .inl (cI, 41, .inl g_second)), (a_sums, .inl (cZ, 241, .inl q.2.2.2))] H → va_D A [(a_this, .inr (8, [.int g_length, .ref a_text, .ref a_now, .ref a_before, .int g_undoMany, .ref a_read, .int g_spot, .ref a_first, .ref a_second, .ref a_sums, .ref a_other, .int g_step, .int g_coverMany, .ref a_grid, .ref a_order, .int q.2.1, .int q.2.2.1])), (a_now, .inl (cZ, 164, .inl g_now)), (a_first, .inl (cI, 41, .inl g_first)), (a_second, .inl (cI, 41, .inl g_second)), (a_sums, .inl (cZ, 241, .inl q.2.2.2))] → va_S A s.heap H locs → lv_has ls 7 [(0, .ref a_this), (3, .int x3), (4, .int x4), (5, .int q.1)] → W p l e rmX8_findLeast s m ([.ref a_this, .int q1, .int q2] : List Value).toArray below meth c H locs 0 0 (MQ below (cQi D r0 A [(a_this, .inr (8, [.int g_length, .ref a_text, .ref a_now, .ref a_before, .int g_undoMany, .ref a_read, .int g_spot, .ref a_first, .ref a_second, .ref a_sums, .ref a_other, .int g_step, .int g_coverMany, .ref a_grid, .ref a_order, .int v_leastSums, .int v_leastPart])), (a_now, .inl (cZ, 164, .inl g_now)), (a_first, .inl (cI, 41, .inl v_first)), (a_second, .inl (cI, 41, .inl v_second)), (a_sums, .inl (cZ, 241, .inl v_sums))]) ([.ref a_this, .int q1, .int q2] : List Value).toArray s 0 0 A) (F0 m 46 ls []) := ⟨_, rfl⟩
    have key : ∀ (q : Int32 × Int32 × Int32 × (Nat → Int32)) (t : Int32 × Int32 × Int32 × (Nat → Int32) × (Nat → Int32) × (Nat → Int32)), run (sX8_findLeast_46 x3 x4 g_now g_first g_second) q = some t → (fun z => z = (r0, v_leastSums, v_leastPart, v_first, v_second, v_sums)) t → F46 q := by
      refine loop_rule (sX8_findLeast_46 x3 x4 g_now g_first g_second) F46 (fun z => z = (r0, v_leastSums, v_leastPart, v_first, v_second, v_sums)) ?_
      intro q t hf hF
      have hF : (Sum.elim F46 (fun z => z = (r0, v_leastSums, v_leastPart, v_first, v_second, v_sums))) t := hF
      have w95 : ∀ (x5 : Int32) (g_leastSums : Int32) (g_leastPart : Int32) (g_sums : Nat → Int32) (t : (Int32 × Int32 × Int32 × (Nat → Int32)) ⊕ (Int32 × Int32 × Int32 × (Nat → Int32) × (Nat → Int32) × (Nat → Int32))) (H : Heap) (locs : List Loc) (ls : Array Slot), bX8_findLeast_95 x3 x4 x5 g_leastSums g_leastPart g_now g_first g_second g_sums = some t → (Sum.elim F46 (fun z => z = (r0, v_leastSums, v_leastPart, v_first, v_second, v_sums))) t → va_P D vwCl [(a_this, .inr (8, [.int g_length, .ref a_text, .ref a_now, .ref a_before, .int g_undoMany, .ref a_read, .int g_spot, .ref a_first, .ref a_second, .ref a_sums, .ref a_other, .int g_step, .int g_coverMany, .ref a_grid, .ref a_order, .int g_leastSums, .int g_leastPart])), (a_now, .inl (cZ, 164, .inl g_now)), (a_first, .inl (cI, 41, .inl g_first)), (a_second, .inl (cI, 41, .inl g_second)), (a_sums, .inl (cZ, 241, .inl g_sums))] H → va_D A [(a_this, .inr (8, [.int g_length, .ref a_text, .ref a_now, .ref a_before, .int g_undoMany, .ref a_read, .int g_spot, .ref a_first, .ref a_second, .ref a_sums, .ref a_other, .int g_step, .int g_coverMany, .ref a_grid, .ref a_order, .int g_leastSums, .int g_leastPart])), (a_now, .inl (cZ, 164, .inl g_now)), (a_first, .inl (cI, 41, .inl g_first)), (a_second, .inl (cI, 41, .inl g_second)), (a_sums, .inl (cZ, 241, .inl g_sums))] → va_S A s.heap H locs → lv_has ls 7 [(0, .ref a_this), (3, .int x3), (4, .int x4), (5, .int x5)] → W p l e rmX8_findLeast s m ([.ref a_this, .int q1, .int q2] : List Value).toArray below meth c H locs 0 0 (MQ below (cQi D r0 A [(a_this, .inr (8, [.int g_length, .ref a_text, .ref a_now, .ref a_before, .int g_undoMany, .ref a_read, .int g_spot, .ref a_first, .ref a_second, .ref a_sums, .ref a_other, .int g_step, .int g_coverMany, .ref a_grid, .ref a_order, .int v_leastSums, .int v_leastPart])), (a_now, .inl (cZ, 164, .inl g_now)), (a_first, .inl (cI, 41, .inl v_first)), (a_second, .inl (cI, 41, .inl v_second)), (a_sums, .inl (cZ, 241, .inl v_sums))]) ([.ref a_this, .int q1, .int q2] : List Value).toArray s 0 0 A) (F0 m 95 ls []) := by
        intro x5 g_leastSums g_leastPart g_sums t H locs ls hf hF hP hD hS hl
        unfold bX8_findLeast_95 at hf
        obtain ⟨y1, ey1⟩ : ∃ z : Int32, z = x5 + (1 : Int32) := ⟨_, rfl⟩
        have hf := lt_some hf y1 ey1
        refine lv_iinc (v := y1) (lv' := [(5, .int y1), (0, .ref a_this), (3, .int x3), (4, .int x4)]) hx hb dX8_findLeast_95 hl (k := 3) rfl (by rw [ey1]; rfl) (by decide) rfl (fun ls hl => ?_)
        refine lv_goto (tgt := 46) hx hb dX8_findLeast_98 (by decide) ?_
        cases hf
        exact ((congrFun eF46 _).mp hF) H locs ls hP hD hS (lv_sub hl [1, 2, 3, 0] rfl)
      have w83 : ∀ (x5 : Int32) (x6 : Int32) (g_leastSums : Int32) (g_leastPart : Int32) (g_sums : Nat → Int32) (t : (Int32 × Int32 × Int32 × (Nat → Int32)) ⊕ (Int32 × Int32 × Int32 × (Nat → Int32) × (Nat → Int32) × (Nat → Int32))) (H : Heap) (locs : List Loc) (ls : Array Slot), bX8_findLeast_83 x3 x4 x5 x6 g_leastSums g_leastPart g_now g_first g_second g_sums = some t → (Sum.elim F46 (fun z => z = (r0, v_leastSums, v_leastPart, v_first, v_second, v_sums))) t → va_P D vwCl [(a_this, .inr (8, [.int g_length, .ref a_text, .ref a_now, .ref a_before, .int g_undoMany, .ref a_read, .int g_spot, .ref a_first, .ref a_second, .ref a_sums, .ref a_other, .int g_step, .int g_coverMany, .ref a_grid, .ref a_order, .int g_leastSums, .int g_leastPart])), (a_now, .inl (cZ, 164, .inl g_now)), (a_first, .inl (cI, 41, .inl g_first)), (a_second, .inl (cI, 41, .inl g_second)), (a_sums, .inl (cZ, 241, .inl g_sums))] H → va_D A [(a_this, .inr (8, [.int g_length, .ref a_text, .ref a_now, .ref a_before, .int g_undoMany, .ref a_read, .int g_spot, .ref a_first, .ref a_second, .ref a_sums, .ref a_other, .int g_step, .int g_coverMany, .ref a_grid, .ref a_order, .int g_leastSums, .int g_leastPart])), (a_now, .inl (cZ, 164, .inl g_now)), (a_first, .inl (cI, 41, .inl g_first)), (a_second, .inl (cI, 41, .inl g_second)), (a_sums, .inl (cZ, 241, .inl g_sums))] → va_S A s.heap H locs → lv_has ls 7 [(0, .ref a_this), (3, .int x3), (4, .int x4), (5, .int x5), (6, .int x6)] → W p l e rmX8_findLeast s m ([.ref a_this, .int q1, .int q2] : List Value).toArray below meth c H locs 0 0 (MQ below (cQi D r0 A [(a_this, .inr (8, [.int g_length, .ref a_text, .ref a_now, .ref a_before, .int g_undoMany, .ref a_read, .int g_spot, .ref a_first, .ref a_second, .ref a_sums, .ref a_other, .int g_step, .int g_coverMany, .ref a_grid, .ref a_order, .int v_leastSums, .int v_leastPart])), (a_now, .inl (cZ, 164, .inl g_now)), (a_first, .inl (cI, 41, .inl v_first)), (a_second, .inl (cI, 41, .inl v_second)), (a_sums, .inl (cZ, 241, .inl v_sums))]) ([.ref a_this, .int q1, .int q2] : List Value).toArray s 0 0 A) (F0 m 83 ls []) := by
        intro x5 x6 g_leastSums g_leastPart g_sums t H locs ls hf hF hP hD hS hl
        unfold bX8_findLeast_83 at hf
        refine lv_aload_n hx hb dX8_findLeast_83 rfl (lv_at hl 0 rfl) ?_
        refine lv_iload hx hb dX8_findLeast_84 (lv_at hl 3 rfl) ?_
        refine va_put (D := D) (ci := 8) (v := .int x5) (ty := .int) (C := RX8) (T := TX8) (N := 17) hx hb hts z1 tyX8 tyX8_ok nmX8 hown hN.1 hP hD hS 0 rfl rfl 16 (by decide) z2 (fun _ h9 => h9) rfl (by decide +kernel) rfl rfl (Nat.le_of_ble_eq_true rfl) dX8_findLeast_86 (fun H locs hP hD hS => ?_)
        have hP : va_P D vwCl [(a_this, .inr (8, [.int g_length, .ref a_text, .ref a_now, .ref a_before, .int g_undoMany, .ref a_read, .int g_spot, .ref a_first, .ref a_second, .ref a_sums, .ref a_other, .int g_step, .int g_coverMany, .ref a_grid, .ref a_order, .int g_leastSums, .int x5])), (a_now, .inl (cZ, 164, .inl g_now)), (a_first, .inl (cI, 41, .inl g_first)), (a_second, .inl (cI, 41, .inl g_second)), (a_sums, .inl (cZ, 241, .inl g_sums))] H := hP
        have hD : va_D A [(a_this, .inr (8, [.int g_length, .ref a_text, .ref a_now, .ref a_before, .int g_undoMany, .ref a_read, .int g_spot, .ref a_first, .ref a_second, .ref a_sums, .ref a_other, .int g_step, .int g_coverMany, .ref a_grid, .ref a_order, .int g_leastSums, .int x5])), (a_now, .inl (cZ, 164, .inl g_now)), (a_first, .inl (cI, 41, .inl g_first)), (a_second, .inl (cI, 41, .inl g_second)), (a_sums, .inl (cZ, 241, .inl g_sums))] := hD
        refine lv_aload_n hx hb dX8_findLeast_89 rfl (lv_at hl 0 rfl) ?_
        refine lv_iload hx hb dX8_findLeast_90 (lv_at hl 4 rfl) ?_
        refine va_put (D := D) (ci := 8) (v := .int x6) (ty := .int) (C := RX8) (T := TX8) (N := 17) hx hb hts z1 tyX8 tyX8_ok nmX8 hown hN.1 hP hD hS 0 rfl rfl 15 (by decide) z3 (fun _ h9 => h9) rfl (by decide +kernel) rfl rfl (Nat.le_of_ble_eq_true rfl) dX8_findLeast_92 (fun H locs hP hD hS => ?_)
        have hP : va_P D vwCl [(a_this, .inr (8, [.int g_length, .ref a_text, .ref a_now, .ref a_before, .int g_undoMany, .ref a_read, .int g_spot, .ref a_first, .ref a_second, .ref a_sums, .ref a_other, .int g_step, .int g_coverMany, .ref a_grid, .ref a_order, .int x6, .int x5])), (a_now, .inl (cZ, 164, .inl g_now)), (a_first, .inl (cI, 41, .inl g_first)), (a_second, .inl (cI, 41, .inl g_second)), (a_sums, .inl (cZ, 241, .inl g_sums))] H := hP
        have hD : va_D A [(a_this, .inr (8, [.int g_length, .ref a_text, .ref a_now, .ref a_before, .int g_undoMany, .ref a_read, .int g_spot, .ref a_first, .ref a_second, .ref a_sums, .ref a_other, .int g_step, .int g_coverMany, .ref a_grid, .ref a_order, .int x6, .int x5])), (a_now, .inl (cZ, 164, .inl g_now)), (a_first, .inl (cI, 41, .inl g_first)), (a_second, .inl (cI, 41, .inl g_second)), (a_sums, .inl (cZ, 241, .inl g_sums))] := hD
        exact w95 x5 x6 x5 g_sums _ H locs ls hf hF hP hD hS (lv_sub hl [0, 1, 2, 3] rfl)
      rw [eF46]
      obtain ⟨x5, g_leastSums, g_leastPart, g_sums⟩ := q
      intro H locs ls hP hD hS hl
      have hP : va_P D vwCl [(a_this, .inr (8, [.int g_length, .ref a_text, .ref a_now, .ref a_before, .int g_undoMany, .ref a_read, .int g_spot, .ref a_first, .ref a_second, .ref a_sums, .ref a_other, .int g_step, .int g_coverMany, .ref a_grid, .ref a_order, .int g_leastSums, .int g_leastPart])), (a_now, .inl (cZ, 164, .inl g_now)), (a_first, .inl (cI, 41, .inl g_first)), (a_second, .inl (cI, 41, .inl g_second)), (a_sums, .inl (cZ, 241, .inl g_sums))] H := hP
      have hD : va_D A [(a_this, .inr (8, [.int g_length, .ref a_text, .ref a_now, .ref a_before, .int g_undoMany, .ref a_read, .int g_spot, .ref a_first, .ref a_second, .ref a_sums, .ref a_other, .int g_step, .int g_coverMany, .ref a_grid, .ref a_order, .int g_leastSums, .int g_leastPart])), (a_now, .inl (cZ, 164, .inl g_now)), (a_first, .inl (cI, 41, .inl g_first)), (a_second, .inl (cI, 41, .inl g_second)), (a_sums, .inl (cZ, 241, .inl g_sums))] := hD
      have hl : lv_has ls 7 [(0, .ref a_this), (3, .int x3), (4, .int x4), (5, .int x5)] := hl
      have hf : bX8_findLeast_46 x3 x4 g_now g_first g_second x5 g_leastSums g_leastPart g_sums = some t := hf
      unfold bX8_findLeast_46 at hf
      refine lv_iload hx hb dX8_findLeast_46 (lv_at hl 3 rfl) ?_
      refine lv_iconst (v := 1) hx hb dX8_findLeast_48 (by decide) ?_
      refine lv_iload_n hx hb dX8_findLeast_49 rfl (lv_at hl 1 rfl) ?_
      refine lv_ishl hx hb dX8_findLeast_50 ?_
      refine lv_icmp_ge (tgt := 101) hx hb dX8_findLeast_51 (by decide) (fun c2 => ?_) (fun c2 => ?_)
      · have hf := br_pos c2 hf
        refine lv_iconst (v := 1) hx hb dX8_findLeast_101 (by decide) ?_
        obtain ⟨c3, hf⟩ := gd_some hf
        cases hf
        have hE : ((1 : Int32), g_leastSums, g_leastPart, g_first, g_second, g_sums) = (r0, v_leastSums, v_leastPart, v_first, v_second, v_sums) := hF
        simp only [Prod.mk.injEq] at hE
        obtain ⟨rfl, rfl, rfl, rfl, rfl, rfl⟩ := hE
        exact rtZ hx hb hr hlk c3 hP hD hS dX8_findLeast_102
      · have hf := br_neg c2 hf
        refine lv_aload_n hx hb dX8_findLeast_54 rfl (lv_at hl 0 rfl) ?_
        refine lv_iload hx hb dX8_findLeast_55 (lv_at hl 3 rfl) ?_
        refine lv_iload_n hx hb dX8_findLeast_57 rfl (lv_at hl 1 rfl) ?_
        refine lv_iload hx hb dX8_findLeast_58 (lv_at hl 2 rfl) ?_
        obtain ⟨u4, hu4, hf⟩ := bd_some hf
        refine caVI (rest := []) (As := [.int x5, .int x3, .int x4]) (wr := [(a_now, .inl (cZ, 164, .inl g_now))]) (wo := [(a_this, .inr (8, [.int g_length, .ref a_text, .ref a_now, .ref a_before, .int g_undoMany, .ref a_read, .int g_spot, .ref a_first, .ref a_second, .ref a_sums, .ref a_other, .int g_step, .int g_coverMany, .ref a_grid, .ref a_order, .int g_leastSums, .int g_leastPart])), (a_now, .inl (cZ, 164, .inl g_now)), (a_first, .inl (cI, 41, .inl g_first)), (a_second, .inl (cI, 41, .inl g_second)), (a_sums, .inl (cZ, 241, .inl u4.2))]) ⟨hx, hb, hml, hown, hts⟩ hN hP hD hS hA (cX8_partSums_ct l D cI cL cC cZ a_this a_text a_now a_before a_read a_first a_second a_sums a_other a_grid a_order g_length g_undoMany g_spot g_step g_coverMany g_leastSums g_leastPart g_first g_second g_sums x5 x3 x4 u4.1 u4.2 hu4) z4 0 8 rfl rfl [0, 2, 3, 4] [1] [1, 0, 2, 3, 4] rfl (by decide) rfl (by decide) (by decide) rfl (by decide) rfl hl.1 rfl (Nat.le_of_ble_eq_true rfl) dX8_findLeast_60 ⟨Nat.zero_le _, Nat.zero_le _⟩ (fun H locs hP hD hS => ?_)
        refine lv_istore (lv' := [(6, .int u4.1), (0, .ref a_this), (3, .int x3), (4, .int x4), (5, .int x5)]) hx hb dX8_findLeast_63 hl (by decide) rfl (fun ls hl => ?_)
        refine lv_aload_n hx hb dX8_findLeast_65 rfl (lv_at hl 1 rfl) ?_
        refine va_get (D := D) (ci := 8) (v := .int g_leastPart) (C := RX8) (T := TX8) (N := 17) hx hb hts z1 hown hN.1 hP 0 rfl rfl 16 (by decide) z2 (fun _ h9 => h9) rfl dX8_findLeast_66 ?_
        refine lv_if_eq (tgt := 83) hx hb dX8_findLeast_69 (by decide) (fun c5 => ?_) (fun c5 => ?_)
        · have hf := br_pos c5 hf
          exact w83 x5 u4.1 g_leastSums g_leastPart u4.2 _ H locs ls hf hF hP hD hS (lv_sub hl [1, 2, 3, 4, 0] rfl)
        · have hf := br_neg c5 hf
          refine lv_aload_n hx hb dX8_findLeast_72 rfl (lv_at hl 1 rfl) ?_
          refine lv_iload hx hb dX8_findLeast_73 (lv_at hl 4 rfl) ?_
          refine lv_iload hx hb dX8_findLeast_75 (lv_at hl 0 rfl) ?_
          obtain ⟨u6, hu6, hf⟩ := bd_some hf
          refine caVI (rest := []) (As := [.int x5, .int u4.1]) (wr := [(a_now, .inl (cZ, 164, .inl g_now)), (a_first, .inl (cI, 41, .inl g_first)), (a_second, .inl (cI, 41, .inl g_second)), (a_sums, .inl (cZ, 241, .inl u4.2))]) (wo := [(a_this, .inr (8, [.int g_length, .ref a_text, .ref a_now, .ref a_before, .int g_undoMany, .ref a_read, .int g_spot, .ref a_first, .ref a_second, .ref a_sums, .ref a_other, .int g_step, .int g_coverMany, .ref a_grid, .ref a_order, .int g_leastSums, .int g_leastPart])), (a_now, .inl (cZ, 164, .inl g_now)), (a_first, .inl (cI, 41, .inl g_first)), (a_second, .inl (cI, 41, .inl g_second)), (a_sums, .inl (cZ, 241, .inl u4.2))]) ⟨hx, hb, hml, hown, hts⟩ hN hP hD hS hA (cX8_isLess_ct l D cI cL cC cZ a_this a_text a_now a_before a_read a_first a_second a_sums a_other a_grid a_order g_length g_undoMany g_spot g_step g_coverMany g_leastSums g_leastPart x5 u4.1 u6 hu6) z5 0 8 rfl rfl [0] [1, 2, 3, 4] [4, 0, 1, 2, 3] rfl (by decide) rfl (by decide) (by decide) rfl (by decide) rfl hl.1 rfl (Nat.le_of_ble_eq_true rfl) dX8_findLeast_77 ⟨Nat.zero_le _, Nat.zero_le _⟩ (fun H locs hP hD hS => ?_)
          refine lv_if_eq (tgt := 95) hx hb dX8_findLeast_80 (by decide) (fun c7 => ?_) (fun c7 => ?_)
          · have hf := br_pos c7 hf
            exact w95 x5 g_leastSums g_leastPart u4.2 _ H locs ls hf hF hP hD hS (lv_sub hl [1, 2, 3, 4] rfl)
          · have hf := br_neg c7 hf
            exact w83 x5 u4.1 g_leastSums g_leastPart u4.2 _ H locs ls hf hF hP hD hS (lv_sub hl [1, 2, 3, 4, 0] rfl)
    intro x5 g_leastSums g_leastPart g_sums t H locs ls hf hF hP hD hS hl
    exact ((congrFun eF46 _).mp (key ((x5, g_leastSums, g_leastPart, g_sums)) t hf hF)) H locs ls hP hD hS hl
  unfold fX8_findLeast at hf
  obtain ⟨H, eH⟩ : ∃ z, z = s.heap := ⟨_, rfl⟩
  obtain ⟨locs, eL⟩ : ∃ z : List Loc, z = [] := ⟨_, rfl⟩
  have hP : va_P D vwCl [(a_this, .inr (8, [.int g_length, .ref a_text, .ref a_now, .ref a_before, .int g_undoMany, .ref a_read, .int g_spot, .ref a_first, .ref a_second, .ref a_sums, .ref a_other, .int g_step, .int g_coverMany, .ref a_grid, .ref a_order, .int g_leastSums, .int g_leastPart])), (a_now, .inl (cZ, 164, .inl g_now)), (a_first, .inl (cI, 41, .inl g_first)), (a_second, .inl (cI, 41, .inl g_second)), (a_sums, .inl (cZ, 241, .inl g_sums))] H := by rw [eH]; exact hP
  have hS : va_S A s.heap H locs := by rw [eH, eL]; exact hS
  suffices hG : W p l e rmX8_findLeast s m ([.ref a_this, .int q1, .int q2] : List Value).toArray below meth c H locs 0 0 (MQ below (cQi D r0 A [(a_this, .inr (8, [.int g_length, .ref a_text, .ref a_now, .ref a_before, .int g_undoMany, .ref a_read, .int g_spot, .ref a_first, .ref a_second, .ref a_sums, .ref a_other, .int g_step, .int g_coverMany, .ref a_grid, .ref a_order, .int v_leastSums, .int v_leastPart])), (a_now, .inl (cZ, 164, .inl g_now)), (a_first, .inl (cI, 41, .inl v_first)), (a_second, .inl (cI, 41, .inl v_second)), (a_sums, .inl (cZ, 241, .inl v_sums))]) ([.ref a_this, .int q1, .int q2] : List Value).toArray s 0 0 A) (F0 m 0 ls []) by rw [eH, eL] at hG; exact hG
  refine lv_aload_n hx hb dX8_findLeast_0 rfl (lv_at hl 0 rfl) ?_
  refine lv_iload_n hx hb dX8_findLeast_1 rfl (lv_at hl 1 rfl) ?_
  refine lv_aload_n hx hb dX8_findLeast_2 rfl (lv_at hl 0 rfl) ?_
  refine va_get (D := D) (ci := 8) (v := .ref a_first) (C := RX8) (T := TX8) (N := 17) hx hb hts z1 hown hN.1 hP 0 rfl rfl 7 (by decide) z6 (fun _ h9 => h9) rfl dX8_findLeast_3 ?_
  obtain ⟨u8, hu8, hf⟩ := bd_some hf
  refine caVI (rest := []) (As := [.int q1, .ref a_first]) (wr := [(a_second, .inl (cI, 41, .inl g_second)), (a_sums, .inl (cZ, 241, .inl g_sums))]) (wo := [(a_this, .inr (8, [.int g_length, .ref a_text, .ref a_now, .ref a_before, .int g_undoMany, .ref a_read, .int g_spot, .ref a_first, .ref a_second, .ref a_sums, .ref a_other, .int g_step, .int g_coverMany, .ref a_grid, .ref a_order, .int g_leastSums, .int g_leastPart])), (a_now, .inl (cZ, 164, .inl g_now)), (a_first, .inl (cI, 41, .inl u8.2)), (a_second, .inl (cI, 41, .inl g_second)), (a_sums, .inl (cZ, 241, .inl g_sums))]) ⟨hx, hb, hml, hown, hts⟩ hN hP hD hS hA (cX8_lists_ct l D cI cL cC cZ a_this a_first a_text a_now a_before a_read a_first a_second a_sums a_other a_grid a_order 41 g_length g_undoMany g_spot g_step g_coverMany g_leastSums g_leastPart g_now g_first q1 u8.1 u8.2 hu8) z7 0 8 rfl rfl [0, 1, 2] [3, 4] [2, 3, 4, 0, 1] rfl (by decide) rfl (by decide) (by decide) rfl (by decide) rfl hl.1 rfl (Nat.le_of_ble_eq_true rfl) dX8_findLeast_6 ⟨Nat.zero_le _, Nat.zero_le _⟩ (fun H locs hP hD hS => ?_)
  refine lv_istore_n (lv' := [(3, .int u8.1), (0, .ref a_this), (1, .int q1), (2, .int q2)]) hx hb dX8_findLeast_9 rfl hl (by decide) rfl (fun ls hl => ?_)
  refine lv_aload_n hx hb dX8_findLeast_10 rfl (lv_at hl 1 rfl) ?_
  refine lv_iload_n hx hb dX8_findLeast_11 rfl (lv_at hl 3 rfl) ?_
  refine lv_aload_n hx hb dX8_findLeast_12 rfl (lv_at hl 1 rfl) ?_
  refine va_get (D := D) (ci := 8) (v := .ref a_second) (C := RX8) (T := TX8) (N := 17) hx hb hts z1 hown hN.1 hP 0 rfl rfl 8 (by decide) z8 (fun _ h9 => h9) rfl dX8_findLeast_13 ?_
  obtain ⟨u9, hu9, hf⟩ := bd_some hf
  refine caVI (rest := []) (As := [.int q2, .ref a_second]) (wr := [(a_first, .inl (cI, 41, .inl u8.2)), (a_sums, .inl (cZ, 241, .inl g_sums))]) (wo := [(a_this, .inr (8, [.int g_length, .ref a_text, .ref a_now, .ref a_before, .int g_undoMany, .ref a_read, .int g_spot, .ref a_first, .ref a_second, .ref a_sums, .ref a_other, .int g_step, .int g_coverMany, .ref a_grid, .ref a_order, .int g_leastSums, .int g_leastPart])), (a_now, .inl (cZ, 164, .inl g_now)), (a_first, .inl (cI, 41, .inl u8.2)), (a_second, .inl (cI, 41, .inl u9.2)), (a_sums, .inl (cZ, 241, .inl g_sums))]) ⟨hx, hb, hml, hown, hts⟩ hN hP hD hS hA (cX8_lists_ct l D cI cL cC cZ a_this a_second a_text a_now a_before a_read a_first a_second a_sums a_other a_grid a_order 41 g_length g_undoMany g_spot g_step g_coverMany g_leastSums g_leastPart g_now g_second q2 u9.1 u9.2 hu9) z7 0 8 rfl rfl [0, 1, 3] [2, 4] [2, 3, 0, 4, 1] rfl (by decide) rfl (by decide) (by decide) rfl (by decide) rfl hl.1 rfl (Nat.le_of_ble_eq_true rfl) dX8_findLeast_16 ⟨Nat.zero_le _, Nat.zero_le _⟩ (fun H locs hP hD hS => ?_)
  refine lv_istore (lv' := [(4, .int u9.1), (3, .int u8.1), (0, .ref a_this), (1, .int q1), (2, .int q2)]) hx hb dX8_findLeast_19 hl (by decide) rfl (fun ls hl => ?_)
  refine lv_iload_n hx hb dX8_findLeast_21 rfl (lv_at hl 1 rfl) ?_
  refine lv_if_eq (tgt := 36) hx hb dX8_findLeast_22 (by decide) (fun c10 => ?_) (fun c10 => ?_)
  · have hf := br_pos c10 hf
    refine lv_iconst (v := 0) hx hb dX8_findLeast_36 (by decide) ?_
    obtain ⟨c11, hf⟩ := gd_some hf
    have hE : ((0 : Int32), g_leastSums, g_leastPart, u8.2, u9.2, g_sums) = (r0, v_leastSums, v_leastPart, v_first, v_second, v_sums) := Option.some.inj hf
    simp only [Prod.mk.injEq] at hE
    obtain ⟨rfl, rfl, rfl, rfl, rfl, rfl⟩ := hE
    exact rtZ hx hb hr hlk c11 hP hD hS dX8_findLeast_37
  · have hf := br_neg c10 hf
    refine lv_iload hx hb dX8_findLeast_25 (lv_at hl 0 rfl) ?_
    refine lv_if_eq (tgt := 36) hx hb dX8_findLeast_27 (by decide) (fun c12 => ?_) (fun c12 => ?_)
    · have hf := br_pos c12 hf
      refine lv_iconst (v := 0) hx hb dX8_findLeast_36 (by decide) ?_
      obtain ⟨c13, hf⟩ := gd_some hf
      have hE : ((0 : Int32), g_leastSums, g_leastPart, u8.2, u9.2, g_sums) = (r0, v_leastSums, v_leastPart, v_first, v_second, v_sums) := Option.some.inj hf
      simp only [Prod.mk.injEq] at hE
      obtain ⟨rfl, rfl, rfl, rfl, rfl, rfl⟩ := hE
      exact rtZ hx hb hr hlk c13 hP hD hS dX8_findLeast_37
    · have hf := br_neg c12 hf
      refine lv_iload_n hx hb dX8_findLeast_30 rfl (lv_at hl 1 rfl) ?_
      refine lv_bipush (v := 12) hx hb dX8_findLeast_31 (by decide) ?_
      refine lv_icmp_le (tgt := 38) hx hb dX8_findLeast_33 (by decide) (fun c14 => ?_) (fun c14 => ?_)
      · have hf := br_pos c14 hf
        refine lv_aload_n hx hb dX8_findLeast_38 rfl (lv_at hl 2 rfl) ?_
        refine lv_iconst (v := 0) hx hb dX8_findLeast_39 (by decide) ?_
        refine va_put (D := D) (ci := 8) (v := .int (0 : Int32)) (ty := .int) (C := RX8) (T := TX8) (N := 17) hx hb hts z1 tyX8 tyX8_ok nmX8 hown hN.1 hP hD hS 0 rfl rfl 16 (by decide) z2 (fun _ h9 => h9) rfl (by decide +kernel) rfl rfl (Nat.le_of_ble_eq_true rfl) dX8_findLeast_40 (fun H locs hP hD hS => ?_)
        have hP : va_P D vwCl [(a_this, .inr (8, [.int g_length, .ref a_text, .ref a_now, .ref a_before, .int g_undoMany, .ref a_read, .int g_spot, .ref a_first, .ref a_second, .ref a_sums, .ref a_other, .int g_step, .int g_coverMany, .ref a_grid, .ref a_order, .int g_leastSums, .int (0 : Int32)])), (a_now, .inl (cZ, 164, .inl g_now)), (a_first, .inl (cI, 41, .inl u8.2)), (a_second, .inl (cI, 41, .inl u9.2)), (a_sums, .inl (cZ, 241, .inl g_sums))] H := hP
        have hD : va_D A [(a_this, .inr (8, [.int g_length, .ref a_text, .ref a_now, .ref a_before, .int g_undoMany, .ref a_read, .int g_spot, .ref a_first, .ref a_second, .ref a_sums, .ref a_other, .int g_step, .int g_coverMany, .ref a_grid, .ref a_order, .int g_leastSums, .int (0 : Int32)])), (a_now, .inl (cZ, 164, .inl g_now)), (a_first, .inl (cI, 41, .inl u8.2)), (a_second, .inl (cI, 41, .inl u9.2)), (a_sums, .inl (cZ, 241, .inl g_sums))] := hD
        refine lv_iconst (v := 1) hx hb dX8_findLeast_43 (by decide) ?_
        refine lv_istore (lv' := [(5, .int (1 : Int32)), (4, .int u9.1), (3, .int u8.1), (0, .ref a_this), (1, .int q1), (2, .int q2)]) hx hb dX8_findLeast_44 hl (by decide) rfl (fun ls hl => ?_)
        exact w46 u8.1 u9.1 g_now u8.2 u9.2 (1 : Int32) g_leastSums (0 : Int32) g_sums (r0, v_leastSums, v_leastPart, v_first, v_second, v_sums) H locs ls hf rfl hP hD hS (lv_sub hl [3, 2, 1, 0] rfl)
      · have hf := br_neg c14 hf
        refine lv_iconst (v := 0) hx hb dX8_findLeast_36 (by decide) ?_
        obtain ⟨c15, hf⟩ := gd_some hf
        have hE : ((0 : Int32), g_leastSums, g_leastPart, u8.2, u9.2, g_sums) = (r0, v_leastSums, v_leastPart, v_first, v_second, v_sums) := Option.some.inj hf
        simp only [Prod.mk.injEq] at hE
        obtain ⟨rfl, rfl, rfl, rfl, rfl, rfl⟩ := hE
        exact rtZ hx hb hr hlk c15 hP hD hS dX8_findLeast_37
abbrev rmX8_swell : Room := { frames := 3, cells := 0, slots := 0, locals := 74 }
noncomputable def fX8_swell (q1 : Int32) (q2 : Int32) (q3 : Int32) (g_leastSums : Int32) (g_leastPart : Int32) (g_now : Nat → Int32) (g_first : Nat → Int32) (g_second : Nat → Int32) (g_sums : Nat → Int32) : Option (Int32 × Int32 × Int32 × (Nat → Int32) × (Nat → Int32) × (Nat → Int32)) := bd (fX8_isSlot q1) (fun u1 => br (u1 = 0) (some (((-1 : Int32), g_leastSums, g_leastPart, g_first, g_second, g_sums))) (bd (fX8_isSlot q2) (fun u3 => br (u3 = 0) (some (((-1 : Int32), g_leastSums, g_leastPart, g_first, g_second, g_sums))) (bd (fX8_in q3.toInt64 (0 : Int64) (2 : Int64)) (fun u5 => br (u5 = 0) (some (((-1 : Int32), g_leastSums, g_leastPart, g_first, g_second, g_sums))) (bd (fX8_findLeast q1 q2 g_leastSums g_leastPart g_now g_first g_second g_sums) (fun u7 => br (u7.1 = 0) (some (((-2 : Int32), u7.2.1, u7.2.2.1, u7.2.2.2.1, u7.2.2.2.2.1, u7.2.2.2.2.2))) (bd (fX8_bits u7.2.2.1) (fun u9 => bd (fX8_common u7.2.1 u9) (fun u10 => br (q3 = 0) (gd (¬ u10 = 0) (lt_ (u7.2.1 / u10) (fun y17 => some ((y17, u7.2.1, u7.2.2.1, u7.2.2.2.1, u7.2.2.2.2.1, u7.2.2.2.2.2))))) (br (q3 = (1 : Int32)) (bd (fX8_bits u7.2.2.1) (fun u13 => gd (¬ u10 = 0) (lt_ (u13 / u10) (fun y15 => some ((y15, u7.2.1, u7.2.2.1, u7.2.2.2.1, u7.2.2.2.2.1, u7.2.2.2.2.2)))))) (some ((u7.2.2.1, u7.2.1, u7.2.2.1, u7.2.2.2.1, u7.2.2.2.2.1, u7.2.2.2.2.2))))))))))))))
set_option maxHeartbeats 4000000 in
set_option maxRecDepth 100000 in
theorem cX8_swell_ct (l : Launch) (D : va_G) (cI cL cC cZ : ClassId) (a_this a_text a_now a_before a_read a_first a_second a_sums a_other a_grid a_order : Nat) (g_length : Int32) (g_undoMany : Int32) (g_spot : Int32) (g_step : Int32) (g_coverMany : Int32) (g_leastSums : Int32) (g_leastPart : Int32) (g_now : Nat → Int32) (g_first : Nat → Int32) (g_second : Nat → Int32) (g_sums : Nat → Int32) (q1 : Int32) (q2 : Int32) (q3 : Int32) (r0 : Int32) (v_leastSums : Int32) (v_leastPart : Int32) (v_first : Nat → Int32) (v_second : Nat → Int32) (v_sums : Nat → Int32) (hf : fX8_swell q1 q2 q3 g_leastSums g_leastPart g_now g_first g_second g_sums = some ((r0, v_leastSums, v_leastPart, v_first, v_second, v_sums))) : CtI l yX8_swell wsX8_swell rmX8_swell D (tyz cI cL cC cZ) [.ref a_this, .int q1, .int q2, .int q3] [(a_this, .inr (8, [.int g_length, .ref a_text, .ref a_now, .ref a_before, .int g_undoMany, .ref a_read, .int g_spot, .ref a_first, .ref a_second, .ref a_sums, .ref a_other, .int g_step, .int g_coverMany, .ref a_grid, .ref a_order, .int g_leastSums, .int g_leastPart])), (a_now, .inl (cZ, 164, .inl g_now)), (a_first, .inl (cI, 41, .inl g_first)), (a_second, .inl (cI, 41, .inl g_second)), (a_sums, .inl (cZ, 241, .inl g_sums))] [(a_this, .inr (8, [.int g_length, .ref a_text, .ref a_now, .ref a_before, .int g_undoMany, .ref a_read, .int g_spot, .ref a_first, .ref a_second, .ref a_sums, .ref a_other, .int g_step, .int g_coverMany, .ref a_grid, .ref a_order, .int v_leastSums, .int v_leastPart])), (a_now, .inl (cZ, 164, .inl g_now)), (a_first, .inl (cI, 41, .inl v_first)), (a_second, .inl (cI, 41, .inl v_second)), (a_sums, .inl (cZ, 241, .inl v_sums))] r0 := by
  refine CtI.make (cc := cX8_swell) (maxL := 5) (ty := .int) (by decide) rfl (Nat.le_of_ble_eq_true rfl) ?_
  intro p e s m below meth c A ls C0 hN hA hP hD hl
  obtain ⟨hx, hb, hr, hml, hown, hts, hlk⟩ := id C0
  have hown : s.vm.findClass RX8 = some m.cls := hown
  have hS : va_S A s.heap s.heap [] := va_S.rf
  have hP : va_P D vwCl [(a_this, .inr (8, [.int g_length, .ref a_text, .ref a_now, .ref a_before, .int g_undoMany, .ref a_read, .int g_spot, .ref a_first, .ref a_second, .ref a_sums, .ref a_other, .int g_step, .int g_coverMany, .ref a_grid, .ref a_order, .int g_leastSums, .int g_leastPart])), (a_now, .inl (cZ, 164, .inl g_now)), (a_first, .inl (cI, 41, .inl g_first)), (a_second, .inl (cI, 41, .inl g_second)), (a_sums, .inl (cZ, 241, .inl g_sums))] s.heap := hP
  have hD : va_D A [(a_this, .inr (8, [.int g_length, .ref a_text, .ref a_now, .ref a_before, .int g_undoMany, .ref a_read, .int g_spot, .ref a_first, .ref a_second, .ref a_sums, .ref a_other, .int g_step, .int g_coverMany, .ref a_grid, .ref a_order, .int g_leastSums, .int g_leastPart])), (a_now, .inl (cZ, 164, .inl g_now)), (a_first, .inl (cI, 41, .inl g_first)), (a_second, .inl (cI, 41, .inl g_second)), (a_sums, .inl (cZ, 241, .inl g_sums))] := hD
  have hl : lv_has ls 5 [(0, .ref a_this), (1, .int q1), (2, .int q2), (3, .int q3)] := hl
  have z1 := va_cwS (R := rmX8_swell) (rm := rmX8_isSlot) (mc := 0) (ms := 0) 1 hts gX8_swell_X8_isSlot rfl rfl rfl (by decide +kernel) ⟨Nat.le_of_ble_eq_true rfl, Nat.le_of_ble_eq_true rfl⟩
  have z2 := hts (.constantLong RX8 137 (2)) (by decide +kernel)
  have z3 := va_cwS (R := rmX8_swell) (rm := rmX8_in) (mc := 0) (ms := 0) 3 hts gX8_swell_X8_in rfl rfl rfl (by decide +kernel) ⟨Nat.le_of_ble_eq_true rfl, Nat.le_of_ble_eq_true rfl⟩
  have z4 := cwV (R := rmX8_swell) (rm := rmX8_findLeast) (mc := 0) (ms := 0) 2 hts gX8_swell_X8_findLeast rfl rfl rfl (by decide +kernel) ⟨Nat.le_of_ble_eq_true rfl, Nat.le_of_ble_eq_true rfl⟩
  have z5 : ∀ w ∈ u_ws RX8 TX8 17, w ∈ wsX8_swell := by decide +kernel
  have z6 := hts (.fieldLink RX8 173 "LittleSumsModel" "leastSums" "I") (by decide +kernel)
  have z7 := hts (.fieldLink RX8 167 "LittleSumsModel" "leastPart" "I") (by decide +kernel)
  have z8 := va_cwS (R := rmX8_swell) (rm := rmX8_bits) (mc := 0) (ms := 0) 1 hts gX8_swell_X8_bits rfl rfl rfl (by decide +kernel) ⟨Nat.le_of_ble_eq_true rfl, Nat.le_of_ble_eq_true rfl⟩
  have z9 := va_cwS (R := rmX8_swell) (rm := rmX8_common) (mc := 0) (ms := 0) 2 hts gX8_swell_X8_common rfl rfl rfl (by decide +kernel) ⟨Nat.le_of_ble_eq_true rfl, Nat.le_of_ble_eq_true rfl⟩
  unfold fX8_swell at hf
  obtain ⟨H, eH⟩ : ∃ z, z = s.heap := ⟨_, rfl⟩
  obtain ⟨locs, eL⟩ : ∃ z : List Loc, z = [] := ⟨_, rfl⟩
  have hP : va_P D vwCl [(a_this, .inr (8, [.int g_length, .ref a_text, .ref a_now, .ref a_before, .int g_undoMany, .ref a_read, .int g_spot, .ref a_first, .ref a_second, .ref a_sums, .ref a_other, .int g_step, .int g_coverMany, .ref a_grid, .ref a_order, .int g_leastSums, .int g_leastPart])), (a_now, .inl (cZ, 164, .inl g_now)), (a_first, .inl (cI, 41, .inl g_first)), (a_second, .inl (cI, 41, .inl g_second)), (a_sums, .inl (cZ, 241, .inl g_sums))] H := by rw [eH]; exact hP
  have hS : va_S A s.heap H locs := by rw [eH, eL]; exact hS
  suffices hG : W p l e rmX8_swell s m ([.ref a_this, .int q1, .int q2, .int q3] : List Value).toArray below meth c H locs 0 0 (MQ below (cQi D r0 A [(a_this, .inr (8, [.int g_length, .ref a_text, .ref a_now, .ref a_before, .int g_undoMany, .ref a_read, .int g_spot, .ref a_first, .ref a_second, .ref a_sums, .ref a_other, .int g_step, .int g_coverMany, .ref a_grid, .ref a_order, .int v_leastSums, .int v_leastPart])), (a_now, .inl (cZ, 164, .inl g_now)), (a_first, .inl (cI, 41, .inl v_first)), (a_second, .inl (cI, 41, .inl v_second)), (a_sums, .inl (cZ, 241, .inl v_sums))]) ([.ref a_this, .int q1, .int q2, .int q3] : List Value).toArray s 0 0 A) (F0 m 0 ls []) by rw [eH, eL] at hG; exact hG
  refine lv_iload_n hx hb dX8_swell_0 rfl (lv_at hl 1 rfl) ?_
  obtain ⟨u1, hu1, hf⟩ := bd_some hf
  refine caSI (rest := []) (As := [.int q1]) (wr := [(a_this, .inr (8, [.int g_length, .ref a_text, .ref a_now, .ref a_before, .int g_undoMany, .ref a_read, .int g_spot, .ref a_first, .ref a_second, .ref a_sums, .ref a_other, .int g_step, .int g_coverMany, .ref a_grid, .ref a_order, .int g_leastSums, .int g_leastPart])), (a_now, .inl (cZ, 164, .inl g_now)), (a_first, .inl (cI, 41, .inl g_first)), (a_second, .inl (cI, 41, .inl g_second)), (a_sums, .inl (cZ, 241, .inl g_sums))]) (wo := [(a_this, .inr (8, [.int g_length, .ref a_text, .ref a_now, .ref a_before, .int g_undoMany, .ref a_read, .int g_spot, .ref a_first, .ref a_second, .ref a_sums, .ref a_other, .int g_step, .int g_coverMany, .ref a_grid, .ref a_order, .int g_leastSums, .int g_leastPart])), (a_now, .inl (cZ, 164, .inl g_now)), (a_first, .inl (cI, 41, .inl g_first)), (a_second, .inl (cI, 41, .inl g_second)), (a_sums, .inl (cZ, 241, .inl g_sums))]) ⟨hx, hb, hml, hown, hts⟩ hN hP hD hS hA (cX8_isSlot_ct l D cI cL cC cZ q1 u1 hu1) z1 [] [0, 1, 2, 3, 4] [0, 1, 2, 3, 4] rfl (by decide) rfl (by decide) (by decide) rfl (by decide) rfl hl.1 rfl (Nat.le_of_ble_eq_true rfl) dX8_swell_1 ⟨Nat.zero_le _, Nat.zero_le _⟩ (fun H locs hP hD hS => ?_)
  refine lv_if_eq (tgt := 26) hx hb dX8_swell_4 (by decide) (fun c2 => ?_) (fun c2 => ?_)
  · have hf := br_pos c2 hf
    refine lv_iconst (v := -1) hx hb dX8_swell_26 (by decide) ?_
    have hE : ((-1 : Int32), g_leastSums, g_leastPart, g_first, g_second, g_sums) = (r0, v_leastSums, v_leastPart, v_first, v_second, v_sums) := Option.some.inj hf
    simp only [Prod.mk.injEq] at hE
    obtain ⟨rfl, rfl, rfl, rfl, rfl, rfl⟩ := hE
    exact rtI hx hb hr hlk hP hD hS dX8_swell_27
  · have hf := br_neg c2 hf
    refine lv_iload_n hx hb dX8_swell_7 rfl (lv_at hl 2 rfl) ?_
    obtain ⟨u3, hu3, hf⟩ := bd_some hf
    refine caSI (rest := []) (As := [.int q2]) (wr := [(a_this, .inr (8, [.int g_length, .ref a_text, .ref a_now, .ref a_before, .int g_undoMany, .ref a_read, .int g_spot, .ref a_first, .ref a_second, .ref a_sums, .ref a_other, .int g_step, .int g_coverMany, .ref a_grid, .ref a_order, .int g_leastSums, .int g_leastPart])), (a_now, .inl (cZ, 164, .inl g_now)), (a_first, .inl (cI, 41, .inl g_first)), (a_second, .inl (cI, 41, .inl g_second)), (a_sums, .inl (cZ, 241, .inl g_sums))]) (wo := [(a_this, .inr (8, [.int g_length, .ref a_text, .ref a_now, .ref a_before, .int g_undoMany, .ref a_read, .int g_spot, .ref a_first, .ref a_second, .ref a_sums, .ref a_other, .int g_step, .int g_coverMany, .ref a_grid, .ref a_order, .int g_leastSums, .int g_leastPart])), (a_now, .inl (cZ, 164, .inl g_now)), (a_first, .inl (cI, 41, .inl g_first)), (a_second, .inl (cI, 41, .inl g_second)), (a_sums, .inl (cZ, 241, .inl g_sums))]) ⟨hx, hb, hml, hown, hts⟩ hN hP hD hS hA (cX8_isSlot_ct l D cI cL cC cZ q2 u3 hu3) z1 [] [0, 1, 2, 3, 4] [0, 1, 2, 3, 4] rfl (by decide) rfl (by decide) (by decide) rfl (by decide) rfl hl.1 rfl (Nat.le_of_ble_eq_true rfl) dX8_swell_8 ⟨Nat.zero_le _, Nat.zero_le _⟩ (fun H locs hP hD hS => ?_)
    refine lv_if_eq (tgt := 26) hx hb dX8_swell_11 (by decide) (fun c4 => ?_) (fun c4 => ?_)
    · have hf := br_pos c4 hf
      refine lv_iconst (v := -1) hx hb dX8_swell_26 (by decide) ?_
      have hE : ((-1 : Int32), g_leastSums, g_leastPart, g_first, g_second, g_sums) = (r0, v_leastSums, v_leastPart, v_first, v_second, v_sums) := Option.some.inj hf
      simp only [Prod.mk.injEq] at hE
      obtain ⟨rfl, rfl, rfl, rfl, rfl, rfl⟩ := hE
      exact rtI hx hb hr hlk hP hD hS dX8_swell_27
    · have hf := br_neg c4 hf
      refine lv_iload_n hx hb dX8_swell_14 rfl (lv_at hl 3 rfl) ?_
      refine lv_i2l hx hb dX8_swell_15 rfl ?_
      refine lv_lconst (v := 0) hx hb dX8_swell_16 (by decide) ?_
      refine lv_ldc2 (v := 2) hx hb hown z2 dX8_swell_17 ?_
      obtain ⟨u5, hu5, hf⟩ := bd_some hf
      refine caSI (rest := []) (As := [.long q3.toInt64, .long (0 : Int64), .long (2 : Int64)]) (wr := [(a_this, .inr (8, [.int g_length, .ref a_text, .ref a_now, .ref a_before, .int g_undoMany, .ref a_read, .int g_spot, .ref a_first, .ref a_second, .ref a_sums, .ref a_other, .int g_step, .int g_coverMany, .ref a_grid, .ref a_order, .int g_leastSums, .int g_leastPart])), (a_now, .inl (cZ, 164, .inl g_now)), (a_first, .inl (cI, 41, .inl g_first)), (a_second, .inl (cI, 41, .inl g_second)), (a_sums, .inl (cZ, 241, .inl g_sums))]) (wo := [(a_this, .inr (8, [.int g_length, .ref a_text, .ref a_now, .ref a_before, .int g_undoMany, .ref a_read, .int g_spot, .ref a_first, .ref a_second, .ref a_sums, .ref a_other, .int g_step, .int g_coverMany, .ref a_grid, .ref a_order, .int g_leastSums, .int g_leastPart])), (a_now, .inl (cZ, 164, .inl g_now)), (a_first, .inl (cI, 41, .inl g_first)), (a_second, .inl (cI, 41, .inl g_second)), (a_sums, .inl (cZ, 241, .inl g_sums))]) ⟨hx, hb, hml, hown, hts⟩ hN hP hD hS hA (cX8_in_ct l D cI cL cC cZ q3.toInt64 (0 : Int64) (2 : Int64) u5 hu5) z3 [] [0, 1, 2, 3, 4] [0, 1, 2, 3, 4] rfl (by decide) rfl (by decide) (by decide) rfl (by decide) rfl hl.1 rfl (Nat.le_of_ble_eq_true rfl) dX8_swell_20 ⟨Nat.zero_le _, Nat.zero_le _⟩ (fun H locs hP hD hS => ?_)
      refine lv_if_ne (tgt := 28) hx hb dX8_swell_23 (by decide) (fun c6 => ?_) (fun c6 => ?_)
      · have hf := br_neg c6 hf
        refine lv_aload_n hx hb dX8_swell_28 rfl (lv_at hl 0 rfl) ?_
        refine lv_iload_n hx hb dX8_swell_29 rfl (lv_at hl 1 rfl) ?_
        refine lv_iload_n hx hb dX8_swell_30 rfl (lv_at hl 2 rfl) ?_
        obtain ⟨u7, hu7, hf⟩ := bd_some hf
        refine caVI (rest := []) (As := [.int q1, .int q2]) (wr := []) (wo := [(a_this, .inr (8, [.int g_length, .ref a_text, .ref a_now, .ref a_before, .int g_undoMany, .ref a_read, .int g_spot, .ref a_first, .ref a_second, .ref a_sums, .ref a_other, .int g_step, .int g_coverMany, .ref a_grid, .ref a_order, .int u7.2.1, .int u7.2.2.1])), (a_now, .inl (cZ, 164, .inl g_now)), (a_first, .inl (cI, 41, .inl u7.2.2.2.1)), (a_second, .inl (cI, 41, .inl u7.2.2.2.2.1)), (a_sums, .inl (cZ, 241, .inl u7.2.2.2.2.2))]) ⟨hx, hb, hml, hown, hts⟩ hN hP hD hS hA (cX8_findLeast_ct l D cI cL cC cZ a_this a_text a_now a_before a_read a_first a_second a_sums a_other a_grid a_order g_length g_undoMany g_spot g_step g_coverMany g_leastSums g_leastPart g_now g_first g_second g_sums q1 q2 u7.1 u7.2.1 u7.2.2.1 u7.2.2.2.1 u7.2.2.2.2.1 u7.2.2.2.2.2 hu7) z4 0 8 rfl rfl [0, 1, 2, 3, 4] [] [0, 1, 2, 3, 4] rfl (by decide) rfl (by decide) (by decide) rfl (by decide) rfl hl.1 rfl (Nat.le_of_ble_eq_true rfl) dX8_swell_31 ⟨Nat.zero_le _, Nat.zero_le _⟩ (fun H locs hP hD hS => ?_)
        refine lv_if_ne (tgt := 40) hx hb dX8_swell_34 (by decide) (fun c8 => ?_) (fun c8 => ?_)
        · have hf := br_neg c8 hf
          refine lv_aload_n hx hb dX8_swell_40 rfl (lv_at hl 0 rfl) ?_
          refine va_get (D := D) (ci := 8) (v := .int u7.2.1) (C := RX8) (T := TX8) (N := 17) hx hb hts z5 hown hN.1 hP 0 rfl rfl 15 (by decide) z6 (fun _ h9 => h9) rfl dX8_swell_41 ?_
          refine lv_aload_n hx hb dX8_swell_44 rfl (lv_at hl 0 rfl) ?_
          refine va_get (D := D) (ci := 8) (v := .int u7.2.2.1) (C := RX8) (T := TX8) (N := 17) hx hb hts z5 hown hN.1 hP 0 rfl rfl 16 (by decide) z7 (fun _ h9 => h9) rfl dX8_swell_45 ?_
          obtain ⟨u9, hu9, hf⟩ := bd_some hf
          refine caSI (rest := [.int u7.2.1]) (As := [.int u7.2.2.1]) (wr := [(a_this, .inr (8, [.int g_length, .ref a_text, .ref a_now, .ref a_before, .int g_undoMany, .ref a_read, .int g_spot, .ref a_first, .ref a_second, .ref a_sums, .ref a_other, .int g_step, .int g_coverMany, .ref a_grid, .ref a_order, .int u7.2.1, .int u7.2.2.1])), (a_now, .inl (cZ, 164, .inl g_now)), (a_first, .inl (cI, 41, .inl u7.2.2.2.1)), (a_second, .inl (cI, 41, .inl u7.2.2.2.2.1)), (a_sums, .inl (cZ, 241, .inl u7.2.2.2.2.2))]) (wo := [(a_this, .inr (8, [.int g_length, .ref a_text, .ref a_now, .ref a_before, .int g_undoMany, .ref a_read, .int g_spot, .ref a_first, .ref a_second, .ref a_sums, .ref a_other, .int g_step, .int g_coverMany, .ref a_grid, .ref a_order, .int u7.2.1, .int u7.2.2.1])), (a_now, .inl (cZ, 164, .inl g_now)), (a_first, .inl (cI, 41, .inl u7.2.2.2.1)), (a_second, .inl (cI, 41, .inl u7.2.2.2.2.1)), (a_sums, .inl (cZ, 241, .inl u7.2.2.2.2.2))]) ⟨hx, hb, hml, hown, hts⟩ hN hP hD hS hA (cX8_bits_ct l D cI cL cC cZ u7.2.2.1 u9 hu9) z8 [] [0, 1, 2, 3, 4] [0, 1, 2, 3, 4] rfl (by decide) rfl (by decide) (by decide) rfl (by decide) rfl hl.1 rfl (Nat.le_of_ble_eq_true rfl) dX8_swell_48 ⟨Nat.zero_le _, Nat.zero_le _⟩ (fun H locs hP hD hS => ?_)
          obtain ⟨u10, hu10, hf⟩ := bd_some hf
          refine caSI (rest := []) (As := [.int u7.2.1, .int u9]) (wr := [(a_this, .inr (8, [.int g_length, .ref a_text, .ref a_now, .ref a_before, .int g_undoMany, .ref a_read, .int g_spot, .ref a_first, .ref a_second, .ref a_sums, .ref a_other, .int g_step, .int g_coverMany, .ref a_grid, .ref a_order, .int u7.2.1, .int u7.2.2.1])), (a_now, .inl (cZ, 164, .inl g_now)), (a_first, .inl (cI, 41, .inl u7.2.2.2.1)), (a_second, .inl (cI, 41, .inl u7.2.2.2.2.1)), (a_sums, .inl (cZ, 241, .inl u7.2.2.2.2.2))]) (wo := [(a_this, .inr (8, [.int g_length, .ref a_text, .ref a_now, .ref a_before, .int g_undoMany, .ref a_read, .int g_spot, .ref a_first, .ref a_second, .ref a_sums, .ref a_other, .int g_step, .int g_coverMany, .ref a_grid, .ref a_order, .int u7.2.1, .int u7.2.2.1])), (a_now, .inl (cZ, 164, .inl g_now)), (a_first, .inl (cI, 41, .inl u7.2.2.2.1)), (a_second, .inl (cI, 41, .inl u7.2.2.2.2.1)), (a_sums, .inl (cZ, 241, .inl u7.2.2.2.2.2))]) ⟨hx, hb, hml, hown, hts⟩ hN hP hD hS hA (cX8_common_ct l D cI cL cC cZ u7.2.1 u9 u10 hu10) z9 [] [0, 1, 2, 3, 4] [0, 1, 2, 3, 4] rfl (by decide) rfl (by decide) (by decide) rfl (by decide) rfl hl.1 rfl (Nat.le_of_ble_eq_true rfl) dX8_swell_51 ⟨Nat.zero_le _, Nat.zero_le _⟩ (fun H locs hP hD hS => ?_)
          refine lv_istore (lv' := [(4, .int u10), (0, .ref a_this), (1, .int q1), (2, .int q2), (3, .int q3)]) hx hb dX8_swell_54 hl (by decide) rfl (fun ls hl => ?_)
          refine lv_iload_n hx hb dX8_swell_56 rfl (lv_at hl 4 rfl) ?_
          refine lv_if_ne (tgt := 70) hx hb dX8_swell_57 (by decide) (fun c11 => ?_) (fun c11 => ?_)
          · have hf := br_neg c11 hf
            refine lv_iload_n hx hb dX8_swell_70 rfl (lv_at hl 4 rfl) ?_
            refine lv_iconst (v := 1) hx hb dX8_swell_71 (by decide) ?_
            refine lv_icmp_ne (tgt := 88) hx hb dX8_swell_72 (by decide) (fun c12 => ?_) (fun c12 => ?_)
            · have hf := br_neg c12 hf
              refine lv_aload_n hx hb dX8_swell_88 rfl (lv_at hl 1 rfl) ?_
              refine va_get (D := D) (ci := 8) (v := .int u7.2.2.1) (C := RX8) (T := TX8) (N := 17) hx hb hts z5 hown hN.1 hP 0 rfl rfl 16 (by decide) z7 (fun _ h9 => h9) rfl dX8_swell_89 ?_
              have hE : (u7.2.2.1, u7.2.1, u7.2.2.1, u7.2.2.2.1, u7.2.2.2.2.1, u7.2.2.2.2.2) = (r0, v_leastSums, v_leastPart, v_first, v_second, v_sums) := Option.some.inj hf
              simp only [Prod.mk.injEq] at hE
              obtain ⟨rfl, rfl, rfl, rfl, rfl, rfl⟩ := hE
              exact rtI hx hb hr hlk hP hD hS dX8_swell_92
            · have hf := br_pos c12 hf
              refine lv_aload_n hx hb dX8_swell_75 rfl (lv_at hl 1 rfl) ?_
              refine va_get (D := D) (ci := 8) (v := .int u7.2.2.1) (C := RX8) (T := TX8) (N := 17) hx hb hts z5 hown hN.1 hP 0 rfl rfl 16 (by decide) z7 (fun _ h9 => h9) rfl dX8_swell_76 ?_
              obtain ⟨u13, hu13, hf⟩ := bd_some hf
              refine caSI (rest := []) (As := [.int u7.2.2.1]) (wr := [(a_this, .inr (8, [.int g_length, .ref a_text, .ref a_now, .ref a_before, .int g_undoMany, .ref a_read, .int g_spot, .ref a_first, .ref a_second, .ref a_sums, .ref a_other, .int g_step, .int g_coverMany, .ref a_grid, .ref a_order, .int u7.2.1, .int u7.2.2.1])), (a_now, .inl (cZ, 164, .inl g_now)), (a_first, .inl (cI, 41, .inl u7.2.2.2.1)), (a_second, .inl (cI, 41, .inl u7.2.2.2.2.1)), (a_sums, .inl (cZ, 241, .inl u7.2.2.2.2.2))]) (wo := [(a_this, .inr (8, [.int g_length, .ref a_text, .ref a_now, .ref a_before, .int g_undoMany, .ref a_read, .int g_spot, .ref a_first, .ref a_second, .ref a_sums, .ref a_other, .int g_step, .int g_coverMany, .ref a_grid, .ref a_order, .int u7.2.1, .int u7.2.2.1])), (a_now, .inl (cZ, 164, .inl g_now)), (a_first, .inl (cI, 41, .inl u7.2.2.2.1)), (a_second, .inl (cI, 41, .inl u7.2.2.2.2.1)), (a_sums, .inl (cZ, 241, .inl u7.2.2.2.2.2))]) ⟨hx, hb, hml, hown, hts⟩ hN hP hD hS hA (cX8_bits_ct l D cI cL cC cZ u7.2.2.1 u13 hu13) z8 [] [0, 1, 2, 3, 4] [0, 1, 2, 3, 4] rfl (by decide) rfl (by decide) (by decide) rfl (by decide) rfl hl.1 rfl (Nat.le_of_ble_eq_true rfl) dX8_swell_79 ⟨Nat.zero_le _, Nat.zero_le _⟩ (fun H locs hP hD hS => ?_)
              refine lv_iload hx hb dX8_swell_82 (lv_at hl 0 rfl) ?_
              obtain ⟨c14, hf⟩ := gd_some hf
              refine lv_idiv hx hb dX8_swell_84 c14 ?_
              refine lv_topi (fun y15 ey15 => ?_)
              have hf := lt_some hf y15 ey15
              refine lv_goto (tgt := 92) hx hb dX8_swell_85 (by decide) ?_
              have hE : (y15, u7.2.1, u7.2.2.1, u7.2.2.2.1, u7.2.2.2.2.1, u7.2.2.2.2.2) = (r0, v_leastSums, v_leastPart, v_first, v_second, v_sums) := Option.some.inj hf
              simp only [Prod.mk.injEq] at hE
              obtain ⟨rfl, rfl, rfl, rfl, rfl, rfl⟩ := hE
              exact rtI hx hb hr hlk hP hD hS dX8_swell_92
          · have hf := br_pos c11 hf
            refine lv_aload_n hx hb dX8_swell_60 rfl (lv_at hl 1 rfl) ?_
            refine va_get (D := D) (ci := 8) (v := .int u7.2.1) (C := RX8) (T := TX8) (N := 17) hx hb hts z5 hown hN.1 hP 0 rfl rfl 15 (by decide) z6 (fun _ h9 => h9) rfl dX8_swell_61 ?_
            refine lv_iload hx hb dX8_swell_64 (lv_at hl 0 rfl) ?_
            obtain ⟨c16, hf⟩ := gd_some hf
            refine lv_idiv hx hb dX8_swell_66 c16 ?_
            refine lv_topi (fun y17 ey17 => ?_)
            have hf := lt_some hf y17 ey17
            refine lv_goto (tgt := 92) hx hb dX8_swell_67 (by decide) ?_
            have hE : (y17, u7.2.1, u7.2.2.1, u7.2.2.2.1, u7.2.2.2.2.1, u7.2.2.2.2.2) = (r0, v_leastSums, v_leastPart, v_first, v_second, v_sums) := Option.some.inj hf
            simp only [Prod.mk.injEq] at hE
            obtain ⟨rfl, rfl, rfl, rfl, rfl, rfl⟩ := hE
            exact rtI hx hb hr hlk hP hD hS dX8_swell_92
        · have hf := br_pos c8 hf
          refine lv_bipush (v := -2) hx hb dX8_swell_37 (by decide) ?_
          have hE : ((-2 : Int32), u7.2.1, u7.2.2.1, u7.2.2.2.1, u7.2.2.2.2.1, u7.2.2.2.2.2) = (r0, v_leastSums, v_leastPart, v_first, v_second, v_sums) := Option.some.inj hf
          simp only [Prod.mk.injEq] at hE
          obtain ⟨rfl, rfl, rfl, rfl, rfl, rfl⟩ := hE
          exact rtI hx hb hr hlk hP hD hS dX8_swell_39
      · have hf := br_pos c6 hf
        refine lv_iconst (v := -1) hx hb dX8_swell_26 (by decide) ?_
        have hE : ((-1 : Int32), g_leastSums, g_leastPart, g_first, g_second, g_sums) = (r0, v_leastSums, v_leastPart, v_first, v_second, v_sums) := Option.some.inj hf
        simp only [Prod.mk.injEq] at hE
        obtain ⟨rfl, rfl, rfl, rfl, rfl, rfl⟩ := hE
        exact rtI hx hb hr hlk hP hD hS dX8_swell_27
abbrev rmX8_shrink : Room := { frames := 3, cells := 0, slots := 0, locals := 74 }
noncomputable def bX8_shrink_95 (x1 : Int32) (x4 : Int32) (g_undoMany : Int32) (g_leastSums : Int32) (g_leastPart : Int32) (g_now : Nat → Int32) (g_before : Nat → Int32) (g_first : Nat → Int32) (g_second : Nat → Int32) (g_sums : Nat → Int32) : Option ((Int32 × (Nat → Int32)) ⊕ (Int32 × Int32 × Int32 × Int32 × (Nat → Int32) × (Nat → Int32) × (Nat → Int32) × (Nat → Int32) × (Nat → Int32))) := lt_ (x4 + (1 : Int32)) (fun y1 => some (Sum.inl ((y1, g_sums))))
noncomputable def bX8_shrink_62 (x1 : Int32) (g_undoMany : Int32) (g_leastSums : Int32) (g_leastPart : Int32) (g_now : Nat → Int32) (g_before : Nat → Int32) (g_first : Nat → Int32) (g_second : Nat → Int32) (x4 : Int32) (g_sums : Nat → Int32) : Option ((Int32 × (Nat → Int32)) ⊕ (Int32 × Int32 × Int32 × Int32 × (Nat → Int32) × (Nat → Int32) × (Nat → Int32) × (Nat → Int32) × (Nat → Int32))) := br ((12 : Int32) ≤ x4) (bd (fX8_becomes x1 g_undoMany g_now g_before g_sums) (fun u3 => some (Sum.inr ((u3.1, u3.2.1, g_leastSums, g_leastPart, u3.2.2.1, u3.2.2.2, g_first, g_second, g_sums))))) (br (((g_leastPart >>> (x4 &&& 31)) &&& (1 : Int32)) = (1 : Int32)) (gd (¬ x4 < 0 ∧ x4.toNatClampNeg < 41) (gd (¬ (g_first x4.toNatClampNeg) < 0 ∧ (g_first x4.toNatClampNeg).toNatClampNeg < 241) (lt_ (upd g_sums (g_first x4.toNatClampNeg).toNatClampNeg (vp_nar .boolean (1 : Int32))) (fun y7 => bX8_shrink_95 x1 x4 g_undoMany g_leastSums g_leastPart g_now g_before g_first g_second y7)))) (bX8_shrink_95 x1 x4 g_undoMany g_leastSums g_leastPart g_now g_before g_first g_second g_sums))
noncomputable def sX8_shrink_62 (x1 : Int32) (g_undoMany : Int32) (g_leastSums : Int32) (g_leastPart : Int32) (g_now : Nat → Int32) (g_before : Nat → Int32) (g_first : Nat → Int32) (g_second : Nat → Int32) : (Int32 × (Nat → Int32)) → Option ((Int32 × (Nat → Int32)) ⊕ (Int32 × Int32 × Int32 × Int32 × (Nat → Int32) × (Nat → Int32) × (Nat → Int32) × (Nat → Int32) × (Nat → Int32))) := fun q => bX8_shrink_62 x1 g_undoMany g_leastSums g_leastPart g_now g_before g_first g_second q.1 q.2
noncomputable def bX8_shrink_38 (x1 : Int32) (g_undoMany : Int32) (g_leastSums : Int32) (g_leastPart : Int32) (g_now : Nat → Int32) (g_before : Nat → Int32) (g_first : Nat → Int32) (g_second : Nat → Int32) (x4 : Int32) (g_sums : Nat → Int32) : Option ((Int32 × (Nat → Int32)) ⊕ (Int32 × Int32 × Int32 × Int32 × (Nat → Int32) × (Nat → Int32) × (Nat → Int32) × (Nat → Int32) × (Nat → Int32))) := br ((41 : Int32) ≤ x4) (ml (run (sX8_shrink_62 x1 g_undoMany g_leastSums g_leastPart g_now g_before g_first g_second) (((0 : Int32), g_sums)))) (gd (¬ x4 < 0 ∧ x4.toNatClampNeg < 241) (lt_ (upd g_sums x4.toNatClampNeg (vp_nar .boolean (0 : Int32))) (fun y11 => lt_ (x4 + (1 : Int32)) (fun y12 => some (Sum.inl ((y12, y11)))))))
noncomputable def sX8_shrink_38 (x1 : Int32) (g_undoMany : Int32) (g_leastSums : Int32) (g_leastPart : Int32) (g_now : Nat → Int32) (g_before : Nat → Int32) (g_first : Nat → Int32) (g_second : Nat → Int32) : (Int32 × (Nat → Int32)) → Option ((Int32 × (Nat → Int32)) ⊕ (Int32 × Int32 × Int32 × Int32 × (Nat → Int32) × (Nat → Int32) × (Nat → Int32) × (Nat → Int32) × (Nat → Int32))) := fun q => bX8_shrink_38 x1 g_undoMany g_leastSums g_leastPart g_now g_before g_first g_second q.1 q.2
noncomputable def fX8_shrink (q1 : Int32) (q2 : Int32) (q3 : Int32) (g_undoMany : Int32) (g_leastSums : Int32) (g_leastPart : Int32) (g_now : Nat → Int32) (g_before : Nat → Int32) (g_first : Nat → Int32) (g_second : Nat → Int32) (g_sums : Nat → Int32) : Option (Int32 × Int32 × Int32 × Int32 × (Nat → Int32) × (Nat → Int32) × (Nat → Int32) × (Nat → Int32) × (Nat → Int32)) := bd (fX8_isSlot q1) (fun u13 => br (u13 = 0) (some (((-1 : Int32), g_undoMany, g_leastSums, g_leastPart, g_now, g_before, g_first, g_second, g_sums))) (bd (fX8_isSlot q2) (fun u15 => br (u15 = 0) (some (((-1 : Int32), g_undoMany, g_leastSums, g_leastPart, g_now, g_before, g_first, g_second, g_sums))) (bd (fX8_isSlot q3) (fun u17 => br (u17 = 0) (some (((-1 : Int32), g_undoMany, g_leastSums, g_leastPart, g_now, g_before, g_first, g_second, g_sums))) (bd (fX8_findLeast q2 q3 g_leastSums g_leastPart g_now g_first g_second g_sums) (fun u19 => br (u19.1 = 0) (some (((-2 : Int32), g_undoMany, u19.2.1, u19.2.2.1, g_now, g_before, u19.2.2.2.1, u19.2.2.2.2.1, u19.2.2.2.2.2))) (run (sX8_shrink_38 q1 g_undoMany u19.2.1 u19.2.2.1 g_now g_before u19.2.2.2.1 u19.2.2.2.2.1) (((0 : Int32), u19.2.2.2.2.2))))))))))
set_option maxHeartbeats 4000000 in
set_option maxRecDepth 100000 in
theorem cX8_shrink_ct (l : Launch) (D : va_G) (cI cL cC cZ : ClassId) (a_this a_text a_now a_before a_read a_first a_second a_sums a_other a_grid a_order : Nat) (g_length : Int32) (g_undoMany : Int32) (g_spot : Int32) (g_step : Int32) (g_coverMany : Int32) (g_leastSums : Int32) (g_leastPart : Int32) (g_now : Nat → Int32) (g_before : Nat → Int32) (g_first : Nat → Int32) (g_second : Nat → Int32) (g_sums : Nat → Int32) (q1 : Int32) (q2 : Int32) (q3 : Int32) (r0 : Int32) (v_undoMany : Int32) (v_leastSums : Int32) (v_leastPart : Int32) (v_now : Nat → Int32) (v_before : Nat → Int32) (v_first : Nat → Int32) (v_second : Nat → Int32) (v_sums : Nat → Int32) (hf : fX8_shrink q1 q2 q3 g_undoMany g_leastSums g_leastPart g_now g_before g_first g_second g_sums = some ((r0, v_undoMany, v_leastSums, v_leastPart, v_now, v_before, v_first, v_second, v_sums))) : CtI l yX8_shrink wsX8_shrink rmX8_shrink D (tyz cI cL cC cZ) [.ref a_this, .int q1, .int q2, .int q3] [(a_this, .inr (8, [.int g_length, .ref a_text, .ref a_now, .ref a_before, .int g_undoMany, .ref a_read, .int g_spot, .ref a_first, .ref a_second, .ref a_sums, .ref a_other, .int g_step, .int g_coverMany, .ref a_grid, .ref a_order, .int g_leastSums, .int g_leastPart])), (a_now, .inl (cZ, 164, .inl g_now)), (a_before, .inl (cZ, 984, .inl g_before)), (a_first, .inl (cI, 41, .inl g_first)), (a_second, .inl (cI, 41, .inl g_second)), (a_sums, .inl (cZ, 241, .inl g_sums))] [(a_this, .inr (8, [.int g_length, .ref a_text, .ref a_now, .ref a_before, .int v_undoMany, .ref a_read, .int g_spot, .ref a_first, .ref a_second, .ref a_sums, .ref a_other, .int g_step, .int g_coverMany, .ref a_grid, .ref a_order, .int v_leastSums, .int v_leastPart])), (a_now, .inl (cZ, 164, .inl v_now)), (a_before, .inl (cZ, 984, .inl v_before)), (a_first, .inl (cI, 41, .inl v_first)), (a_second, .inl (cI, 41, .inl v_second)), (a_sums, .inl (cZ, 241, .inl v_sums))] r0 := by
  refine CtI.make (cc := cX8_shrink) (maxL := 5) (ty := .int) (by decide) rfl (Nat.le_of_ble_eq_true rfl) ?_
  intro p e s m below meth c A ls C0 hN hA hP hD hl
  obtain ⟨hx, hb, hr, hml, hown, hts, hlk⟩ := id C0
  have hown : s.vm.findClass RX8 = some m.cls := hown
  have hS : va_S A s.heap s.heap [] := va_S.rf
  have hP : va_P D vwCl [(a_this, .inr (8, [.int g_length, .ref a_text, .ref a_now, .ref a_before, .int g_undoMany, .ref a_read, .int g_spot, .ref a_first, .ref a_second, .ref a_sums, .ref a_other, .int g_step, .int g_coverMany, .ref a_grid, .ref a_order, .int g_leastSums, .int g_leastPart])), (a_now, .inl (cZ, 164, .inl g_now)), (a_before, .inl (cZ, 984, .inl g_before)), (a_first, .inl (cI, 41, .inl g_first)), (a_second, .inl (cI, 41, .inl g_second)), (a_sums, .inl (cZ, 241, .inl g_sums))] s.heap := hP
  have hD : va_D A [(a_this, .inr (8, [.int g_length, .ref a_text, .ref a_now, .ref a_before, .int g_undoMany, .ref a_read, .int g_spot, .ref a_first, .ref a_second, .ref a_sums, .ref a_other, .int g_step, .int g_coverMany, .ref a_grid, .ref a_order, .int g_leastSums, .int g_leastPart])), (a_now, .inl (cZ, 164, .inl g_now)), (a_before, .inl (cZ, 984, .inl g_before)), (a_first, .inl (cI, 41, .inl g_first)), (a_second, .inl (cI, 41, .inl g_second)), (a_sums, .inl (cZ, 241, .inl g_sums))] := hD
  have hl : lv_has ls 5 [(0, .ref a_this), (1, .int q1), (2, .int q2), (3, .int q3)] := hl
  have z1 := cwV (R := rmX8_shrink) (rm := rmX8_becomes) (mc := 0) (ms := 0) 1 hts gX8_shrink_X8_becomes rfl rfl rfl (by decide +kernel) ⟨Nat.le_of_ble_eq_true rfl, Nat.le_of_ble_eq_true rfl⟩
  have z2 : ∀ w ∈ u_ws RX8 TX8 17, w ∈ wsX8_shrink := by decide +kernel
  have z3 := hts (.fieldLink RX8 167 "LittleSumsModel" "leastPart" "I") (by decide +kernel)
  have z4 := hts (.fieldLink RX8 29 "LittleSumsModel" "sums" "[Z") (by decide +kernel)
  have z5 := hts (.fieldLink RX8 23 "LittleSumsModel" "first" "[I") (by decide +kernel)
  have z6 := va_cwS (R := rmX8_shrink) (rm := rmX8_isSlot) (mc := 0) (ms := 0) 1 hts gX8_shrink_X8_isSlot rfl rfl rfl (by decide +kernel) ⟨Nat.le_of_ble_eq_true rfl, Nat.le_of_ble_eq_true rfl⟩
  have z7 := cwV (R := rmX8_shrink) (rm := rmX8_findLeast) (mc := 0) (ms := 0) 2 hts gX8_shrink_X8_findLeast rfl rfl rfl (by decide +kernel) ⟨Nat.le_of_ble_eq_true rfl, Nat.le_of_ble_eq_true rfl⟩
  have w62 : ∀ (x1 : Int32) (g_undoMany : Int32) (g_leastSums : Int32) (g_leastPart : Int32) (g_now : Nat → Int32) (g_before : Nat → Int32) (g_first : Nat → Int32) (g_second : Nat → Int32) (x4 : Int32) (g_sums : Nat → Int32) (t : Int32 × Int32 × Int32 × Int32 × (Nat → Int32) × (Nat → Int32) × (Nat → Int32) × (Nat → Int32) × (Nat → Int32)) (H : Heap) (locs : List Loc) (ls : Array Slot), run (sX8_shrink_62 x1 g_undoMany g_leastSums g_leastPart g_now g_before g_first g_second) ((x4, g_sums)) = some t → (fun z => z = (r0, v_undoMany, v_leastSums, v_leastPart, v_now, v_before, v_first, v_second, v_sums)) t → va_P D vwCl [(a_this, .inr (8, [.int g_length, .ref a_text, .ref a_now, .ref a_before, .int g_undoMany, .ref a_read, .int g_spot, .ref a_first, .ref a_second, .ref a_sums, .ref a_other, .int g_step, .int g_coverMany, .ref a_grid, .ref a_order, .int g_leastSums, .int g_leastPart])), (a_now, .inl (cZ, 164, .inl g_now)), (a_before, .inl (cZ, 984, .inl g_before)), (a_first, .inl (cI, 41, .inl g_first)), (a_second, .inl (cI, 41, .inl g_second)), (a_sums, .inl (cZ, 241, .inl g_sums))] H → va_D A [(a_this, .inr (8, [.int g_length, .ref a_text, .ref a_now, .ref a_before, .int g_undoMany, .ref a_read, .int g_spot, .ref a_first, .ref a_second, .ref a_sums, .ref a_other, .int g_step, .int g_coverMany, .ref a_grid, .ref a_order, .int g_leastSums, .int g_leastPart])), (a_now, .inl (cZ, 164, .inl g_now)), (a_before, .inl (cZ, 984, .inl g_before)), (a_first, .inl (cI, 41, .inl g_first)), (a_second, .inl (cI, 41, .inl g_second)), (a_sums, .inl (cZ, 241, .inl g_sums))] → va_S A s.heap H locs → lv_has ls 5 [(0, .ref a_this), (1, .int x1), (4, .int x4)] → W p l e rmX8_shrink s m ([.ref a_this, .int q1, .int q2, .int q3] : List Value).toArray below meth c H locs 0 0 (MQ below (cQi D r0 A [(a_this, .inr (8, [.int g_length, .ref a_text, .ref a_now, .ref a_before, .int v_undoMany, .ref a_read, .int g_spot, .ref a_first, .ref a_second, .ref a_sums, .ref a_other, .int g_step, .int g_coverMany, .ref a_grid, .ref a_order, .int v_leastSums, .int v_leastPart])), (a_now, .inl (cZ, 164, .inl v_now)), (a_before, .inl (cZ, 984, .inl v_before)), (a_first, .inl (cI, 41, .inl v_first)), (a_second, .inl (cI, 41, .inl v_second)), (a_sums, .inl (cZ, 241, .inl v_sums))]) ([.ref a_this, .int q1, .int q2, .int q3] : List Value).toArray s 0 0 A) (F0 m 62 ls []) := by
    intro x1 g_undoMany g_leastSums g_leastPart g_now g_before g_first g_second
    obtain ⟨F62, eF62⟩ : ∃ F : (Int32 × (Nat → Int32)) → Prop, F = fun q => ∀ (H : Heap) (locs : List Loc) (ls : Array Slot), va_P D vwCl [(a_this, .inr (8, [.int g_length, .ref a_text, .ref a_now, .ref a_before, .int g_undoMany, .ref a_read, .int g_spot, .ref a_first, .ref a_second, .ref a_sums, .ref a_other, .int g_step, .int g_coverMany, .ref a_grid, .ref a_order, .int g_leastSums, .int g_leastPart])), (a_now, .inl (cZ, 164, .inl g_now)), (a_before, .inl (cZ, 984, .inl g_before)), (a_first, .inl (cI, 41, .inl g_first)), (a_second, .inl (cI, 41, .inl g_second)), (a_sums, .inl (cZ, 241, .inl q.2))] H → va_D A [(a_this, .inr (8, [.int g_length, .ref a_text, .ref a_now, .ref a_before, .int g_undoMany, .ref a_read, .int g_spot, .ref a_first, .ref a_second, .ref a_sums, .ref a_other, .int g_step, .int g_coverMany, .ref a_grid, .ref a_order, .int g_leastSums, .int g_leastPart])), (a_now, .inl (cZ, 164, .inl g_now)), (a_before, .inl (cZ, 984, .inl g_before)), (a_first, .inl (cI, 41, .inl g_first)), (a_second, .inl (cI, 41, .inl g_second)), (a_sums, .inl (cZ, 241, .inl q.2))] → va_S A s.heap H locs → lv_has ls 5 [(0, .ref a_this), (1, .int x1), (4, .int q.1)] → W p l e rmX8_shrink s m ([.ref a_this, .int q1, .int q2, .int q3] : List Value).toArray below meth c H locs 0 0 (MQ below (cQi D r0 A [(a_this, .inr (8, [.int g_length, .ref a_text, .ref a_now, .ref a_before, .int v_undoMany, .ref a_read, .int g_spot, .ref a_first, .ref a_second, .ref a_sums, .ref a_other, .int g_step, .int g_coverMany, .ref a_grid, .ref a_order, .int v_leastSums, .int v_leastPart])), (a_now, .inl (cZ, 164, .inl v_now)), (a_before, .inl (cZ, 984, .inl v_before)), (a_first, .inl (cI, 41, .inl v_first)), (a_second, .inl (cI, 41, .inl v_second)), (a_sums, .inl (cZ, 241, .inl v_sums))]) ([.ref a_this, .int q1, .int q2, .int q3] : List Value).toArray s 0 0 A) (F0 m 62 ls []) := ⟨_, rfl⟩
    have key : ∀ (q : Int32 × (Nat → Int32)) (t : Int32 × Int32 × Int32 × Int32 × (Nat → Int32) × (Nat → Int32) × (Nat → Int32) × (Nat → Int32) × (Nat → Int32)), run (sX8_shrink_62 x1 g_undoMany g_leastSums g_leastPart g_now g_before g_first g_second) q = some t → (fun z => z = (r0, v_undoMany, v_leastSums, v_leastPart, v_now, v_before, v_first, v_second, v_sums)) t → F62 q := by
      refine loop_rule (sX8_shrink_62 x1 g_undoMany g_leastSums g_leastPart g_now g_before g_first g_second) F62 (fun z => z = (r0, v_undoMany, v_leastSums, v_leastPart, v_now, v_before, v_first, v_second, v_sums)) ?_
      intro q t hf hF
      have hF : (Sum.elim F62 (fun z => z = (r0, v_undoMany, v_leastSums, v_leastPart, v_now, v_before, v_first, v_second, v_sums))) t := hF
      have w95 : ∀ (x4 : Int32) (g_sums : Nat → Int32) (t : (Int32 × (Nat → Int32)) ⊕ (Int32 × Int32 × Int32 × Int32 × (Nat → Int32) × (Nat → Int32) × (Nat → Int32) × (Nat → Int32) × (Nat → Int32))) (H : Heap) (locs : List Loc) (ls : Array Slot), bX8_shrink_95 x1 x4 g_undoMany g_leastSums g_leastPart g_now g_before g_first g_second g_sums = some t → (Sum.elim F62 (fun z => z = (r0, v_undoMany, v_leastSums, v_leastPart, v_now, v_before, v_first, v_second, v_sums))) t → va_P D vwCl [(a_this, .inr (8, [.int g_length, .ref a_text, .ref a_now, .ref a_before, .int g_undoMany, .ref a_read, .int g_spot, .ref a_first, .ref a_second, .ref a_sums, .ref a_other, .int g_step, .int g_coverMany, .ref a_grid, .ref a_order, .int g_leastSums, .int g_leastPart])), (a_now, .inl (cZ, 164, .inl g_now)), (a_before, .inl (cZ, 984, .inl g_before)), (a_first, .inl (cI, 41, .inl g_first)), (a_second, .inl (cI, 41, .inl g_second)), (a_sums, .inl (cZ, 241, .inl g_sums))] H → va_D A [(a_this, .inr (8, [.int g_length, .ref a_text, .ref a_now, .ref a_before, .int g_undoMany, .ref a_read, .int g_spot, .ref a_first, .ref a_second, .ref a_sums, .ref a_other, .int g_step, .int g_coverMany, .ref a_grid, .ref a_order, .int g_leastSums, .int g_leastPart])), (a_now, .inl (cZ, 164, .inl g_now)), (a_before, .inl (cZ, 984, .inl g_before)), (a_first, .inl (cI, 41, .inl g_first)), (a_second, .inl (cI, 41, .inl g_second)), (a_sums, .inl (cZ, 241, .inl g_sums))] → va_S A s.heap H locs → lv_has ls 5 [(0, .ref a_this), (1, .int x1), (4, .int x4)] → W p l e rmX8_shrink s m ([.ref a_this, .int q1, .int q2, .int q3] : List Value).toArray below meth c H locs 0 0 (MQ below (cQi D r0 A [(a_this, .inr (8, [.int g_length, .ref a_text, .ref a_now, .ref a_before, .int v_undoMany, .ref a_read, .int g_spot, .ref a_first, .ref a_second, .ref a_sums, .ref a_other, .int g_step, .int g_coverMany, .ref a_grid, .ref a_order, .int v_leastSums, .int v_leastPart])), (a_now, .inl (cZ, 164, .inl v_now)), (a_before, .inl (cZ, 984, .inl v_before)), (a_first, .inl (cI, 41, .inl v_first)), (a_second, .inl (cI, 41, .inl v_second)), (a_sums, .inl (cZ, 241, .inl v_sums))]) ([.ref a_this, .int q1, .int q2, .int q3] : List Value).toArray s 0 0 A) (F0 m 95 ls []) := by
        intro x4 g_sums t H locs ls hf hF hP hD hS hl
        unfold bX8_shrink_95 at hf
        obtain ⟨y1, ey1⟩ : ∃ z : Int32, z = x4 + (1 : Int32) := ⟨_, rfl⟩
        have hf := lt_some hf y1 ey1
        refine lv_iinc (v := y1) (lv' := [(4, .int y1), (0, .ref a_this), (1, .int x1)]) hx hb dX8_shrink_95 hl (k := 2) rfl (by rw [ey1]; rfl) (by decide) rfl (fun ls hl => ?_)
        refine lv_goto (tgt := 62) hx hb dX8_shrink_98 (by decide) ?_
        cases hf
        exact ((congrFun eF62 _).mp hF) H locs ls hP hD hS (lv_sub hl [1, 2, 0] rfl)
      rw [eF62]
      obtain ⟨x4, g_sums⟩ := q
      intro H locs ls hP hD hS hl
      have hP : va_P D vwCl [(a_this, .inr (8, [.int g_length, .ref a_text, .ref a_now, .ref a_before, .int g_undoMany, .ref a_read, .int g_spot, .ref a_first, .ref a_second, .ref a_sums, .ref a_other, .int g_step, .int g_coverMany, .ref a_grid, .ref a_order, .int g_leastSums, .int g_leastPart])), (a_now, .inl (cZ, 164, .inl g_now)), (a_before, .inl (cZ, 984, .inl g_before)), (a_first, .inl (cI, 41, .inl g_first)), (a_second, .inl (cI, 41, .inl g_second)), (a_sums, .inl (cZ, 241, .inl g_sums))] H := hP
      have hD : va_D A [(a_this, .inr (8, [.int g_length, .ref a_text, .ref a_now, .ref a_before, .int g_undoMany, .ref a_read, .int g_spot, .ref a_first, .ref a_second, .ref a_sums, .ref a_other, .int g_step, .int g_coverMany, .ref a_grid, .ref a_order, .int g_leastSums, .int g_leastPart])), (a_now, .inl (cZ, 164, .inl g_now)), (a_before, .inl (cZ, 984, .inl g_before)), (a_first, .inl (cI, 41, .inl g_first)), (a_second, .inl (cI, 41, .inl g_second)), (a_sums, .inl (cZ, 241, .inl g_sums))] := hD
      have hl : lv_has ls 5 [(0, .ref a_this), (1, .int x1), (4, .int x4)] := hl
      have hf : bX8_shrink_62 x1 g_undoMany g_leastSums g_leastPart g_now g_before g_first g_second x4 g_sums = some t := hf
      unfold bX8_shrink_62 at hf
      refine lv_iload hx hb dX8_shrink_62 (lv_at hl 2 rfl) ?_
      refine lv_bipush (v := 12) hx hb dX8_shrink_64 (by decide) ?_
      refine lv_icmp_ge (tgt := 101) hx hb dX8_shrink_66 (by decide) (fun c2 => ?_) (fun c2 => ?_)
      · have hf := br_pos c2 hf
        refine lv_aload_n hx hb dX8_shrink_101 rfl (lv_at hl 0 rfl) ?_
        refine lv_iload_n hx hb dX8_shrink_102 rfl (lv_at hl 1 rfl) ?_
        obtain ⟨u3, hu3, hf⟩ := bd_some hf
        refine caVI (rest := []) (As := [.int x1]) (wr := [(a_first, .inl (cI, 41, .inl g_first)), (a_second, .inl (cI, 41, .inl g_second))]) (wo := [(a_this, .inr (8, [.int g_length, .ref a_text, .ref a_now, .ref a_before, .int u3.2.1, .ref a_read, .int g_spot, .ref a_first, .ref a_second, .ref a_sums, .ref a_other, .int g_step, .int g_coverMany, .ref a_grid, .ref a_order, .int g_leastSums, .int g_leastPart])), (a_now, .inl (cZ, 164, .inl u3.2.2.1)), (a_before, .inl (cZ, 984, .inl u3.2.2.2)), (a_first, .inl (cI, 41, .inl g_first)), (a_second, .inl (cI, 41, .inl g_second)), (a_sums, .inl (cZ, 241, .inl g_sums))]) ⟨hx, hb, hml, hown, hts⟩ hN hP hD hS hA (cX8_becomes_ct l D cI cL cC cZ a_this a_text a_now a_before a_read a_first a_second a_sums a_other a_grid a_order g_length g_undoMany g_spot g_step g_coverMany g_leastSums g_leastPart g_now g_before g_sums x1 u3.1 u3.2.1 u3.2.2.1 u3.2.2.2 hu3) z1 0 8 rfl rfl [0, 1, 2, 5] [3, 4] [2, 3, 4, 0, 1, 5] rfl (by decide) rfl (by decide) (by decide) rfl (by decide) rfl hl.1 rfl (Nat.le_of_ble_eq_true rfl) dX8_shrink_103 ⟨Nat.zero_le _, Nat.zero_le _⟩ (fun H locs hP hD hS => ?_)
        cases hf
        have hE : (u3.1, u3.2.1, g_leastSums, g_leastPart, u3.2.2.1, u3.2.2.2, g_first, g_second, g_sums) = (r0, v_undoMany, v_leastSums, v_leastPart, v_now, v_before, v_first, v_second, v_sums) := hF
        simp only [Prod.mk.injEq] at hE
        obtain ⟨rfl, rfl, rfl, rfl, rfl, rfl, rfl, rfl, rfl⟩ := hE
        exact rtI hx hb hr hlk hP hD hS dX8_shrink_106
      · have hf := br_neg c2 hf
        refine lv_aload_n hx hb dX8_shrink_69 rfl (lv_at hl 0 rfl) ?_
        refine va_get (D := D) (ci := 8) (v := .int g_leastPart) (C := RX8) (T := TX8) (N := 17) hx hb hts z2 hown hN.1 hP 0 rfl rfl 16 (by decide) z3 (fun _ h9 => h9) rfl dX8_shrink_70 ?_
        refine lv_iload hx hb dX8_shrink_73 (lv_at hl 2 rfl) ?_
        refine lv_ishr hx hb dX8_shrink_75 ?_
        refine lv_iconst (v := 1) hx hb dX8_shrink_76 (by decide) ?_
        refine lv_iand hx hb dX8_shrink_77 ?_
        refine lv_iconst (v := 1) hx hb dX8_shrink_78 (by decide) ?_
        refine lv_icmp_ne (tgt := 95) hx hb dX8_shrink_79 (by decide) (fun c4 => ?_) (fun c4 => ?_)
        · have hf := br_neg c4 hf
          exact w95 x4 g_sums _ H locs ls hf hF hP hD hS (lv_sub hl [0, 1, 2] rfl)
        · have hf := br_pos c4 hf
          refine lv_aload_n hx hb dX8_shrink_82 rfl (lv_at hl 0 rfl) ?_
          refine va_get (D := D) (ci := 8) (v := .ref a_sums) (C := RX8) (T := TX8) (N := 17) hx hb hts z2 hown hN.1 hP 0 rfl rfl 9 (by decide) z4 (fun _ h9 => h9) rfl dX8_shrink_83 ?_
          refine lv_aload_n hx hb dX8_shrink_86 rfl (lv_at hl 0 rfl) ?_
          refine va_get (D := D) (ci := 8) (v := .ref a_first) (C := RX8) (T := TX8) (N := 17) hx hb hts z2 hown hN.1 hP 0 rfl rfl 7 (by decide) z5 (fun _ h9 => h9) rfl dX8_shrink_87 ?_
          refine lv_iload hx hb dX8_shrink_90 (lv_at hl 2 rfl) ?_
          obtain ⟨c5, hf⟩ := gd_some hf
          refine va_iald hx hb hN.1 hP 3 0 rfl rfl (ix_in c5) dX8_shrink_92 ?_
          refine lv_iconst (v := 1) hx hb dX8_shrink_93 (by decide) ?_
          obtain ⟨c6, hf⟩ := gd_some hf
          refine va_zast hx hb hN.1 hP hD hS 5 3 rfl rfl (ix_in c6) dX8_shrink_94 (fun H locs hP hD hS => ?_)
          obtain ⟨y7, ey7⟩ : ∃ z, z = upd g_sums (g_first x4.toNatClampNeg).toNatClampNeg (vp_nar .boolean (1 : Int32)) := ⟨_, rfl⟩
          have hf := lt_some hf y7 ey7
          have hP : va_P D vwCl [(a_this, .inr (8, [.int g_length, .ref a_text, .ref a_now, .ref a_before, .int g_undoMany, .ref a_read, .int g_spot, .ref a_first, .ref a_second, .ref a_sums, .ref a_other, .int g_step, .int g_coverMany, .ref a_grid, .ref a_order, .int g_leastSums, .int g_leastPart])), (a_now, .inl (cZ, 164, .inl g_now)), (a_before, .inl (cZ, 984, .inl g_before)), (a_first, .inl (cI, 41, .inl g_first)), (a_second, .inl (cI, 41, .inl g_second)), (a_sums, .inl (cZ, 241, .inl y7))] H := by rw [ey7]; exact hP
          have hD : va_D A [(a_this, .inr (8, [.int g_length, .ref a_text, .ref a_now, .ref a_before, .int g_undoMany, .ref a_read, .int g_spot, .ref a_first, .ref a_second, .ref a_sums, .ref a_other, .int g_step, .int g_coverMany, .ref a_grid, .ref a_order, .int g_leastSums, .int g_leastPart])), (a_now, .inl (cZ, 164, .inl g_now)), (a_before, .inl (cZ, 984, .inl g_before)), (a_first, .inl (cI, 41, .inl g_first)), (a_second, .inl (cI, 41, .inl g_second)), (a_sums, .inl (cZ, 241, .inl y7))] := by rw [ey7]; exact hD
          exact w95 x4 y7 _ H locs ls hf hF hP hD hS (lv_sub hl [0, 1, 2] rfl)
    intro x4 g_sums t H locs ls hf hF hP hD hS hl
    exact ((congrFun eF62 _).mp (key ((x4, g_sums)) t hf hF)) H locs ls hP hD hS hl
  have w38 : ∀ (x1 : Int32) (g_undoMany : Int32) (g_leastSums : Int32) (g_leastPart : Int32) (g_now : Nat → Int32) (g_before : Nat → Int32) (g_first : Nat → Int32) (g_second : Nat → Int32) (x4 : Int32) (g_sums : Nat → Int32) (t : Int32 × Int32 × Int32 × Int32 × (Nat → Int32) × (Nat → Int32) × (Nat → Int32) × (Nat → Int32) × (Nat → Int32)) (H : Heap) (locs : List Loc) (ls : Array Slot), run (sX8_shrink_38 x1 g_undoMany g_leastSums g_leastPart g_now g_before g_first g_second) ((x4, g_sums)) = some t → (fun z => z = (r0, v_undoMany, v_leastSums, v_leastPart, v_now, v_before, v_first, v_second, v_sums)) t → va_P D vwCl [(a_this, .inr (8, [.int g_length, .ref a_text, .ref a_now, .ref a_before, .int g_undoMany, .ref a_read, .int g_spot, .ref a_first, .ref a_second, .ref a_sums, .ref a_other, .int g_step, .int g_coverMany, .ref a_grid, .ref a_order, .int g_leastSums, .int g_leastPart])), (a_now, .inl (cZ, 164, .inl g_now)), (a_before, .inl (cZ, 984, .inl g_before)), (a_first, .inl (cI, 41, .inl g_first)), (a_second, .inl (cI, 41, .inl g_second)), (a_sums, .inl (cZ, 241, .inl g_sums))] H → va_D A [(a_this, .inr (8, [.int g_length, .ref a_text, .ref a_now, .ref a_before, .int g_undoMany, .ref a_read, .int g_spot, .ref a_first, .ref a_second, .ref a_sums, .ref a_other, .int g_step, .int g_coverMany, .ref a_grid, .ref a_order, .int g_leastSums, .int g_leastPart])), (a_now, .inl (cZ, 164, .inl g_now)), (a_before, .inl (cZ, 984, .inl g_before)), (a_first, .inl (cI, 41, .inl g_first)), (a_second, .inl (cI, 41, .inl g_second)), (a_sums, .inl (cZ, 241, .inl g_sums))] → va_S A s.heap H locs → lv_has ls 5 [(0, .ref a_this), (1, .int x1), (4, .int x4)] → W p l e rmX8_shrink s m ([.ref a_this, .int q1, .int q2, .int q3] : List Value).toArray below meth c H locs 0 0 (MQ below (cQi D r0 A [(a_this, .inr (8, [.int g_length, .ref a_text, .ref a_now, .ref a_before, .int v_undoMany, .ref a_read, .int g_spot, .ref a_first, .ref a_second, .ref a_sums, .ref a_other, .int g_step, .int g_coverMany, .ref a_grid, .ref a_order, .int v_leastSums, .int v_leastPart])), (a_now, .inl (cZ, 164, .inl v_now)), (a_before, .inl (cZ, 984, .inl v_before)), (a_first, .inl (cI, 41, .inl v_first)), (a_second, .inl (cI, 41, .inl v_second)), (a_sums, .inl (cZ, 241, .inl v_sums))]) ([.ref a_this, .int q1, .int q2, .int q3] : List Value).toArray s 0 0 A) (F0 m 38 ls []) := by
    intro x1 g_undoMany g_leastSums g_leastPart g_now g_before g_first g_second
    obtain ⟨F38, eF38⟩ : ∃ F : (Int32 × (Nat → Int32)) → Prop, F = fun q => ∀ (H : Heap) (locs : List Loc) (ls : Array Slot), va_P D vwCl [(a_this, .inr (8, [.int g_length, .ref a_text, .ref a_now, .ref a_before, .int g_undoMany, .ref a_read, .int g_spot, .ref a_first, .ref a_second, .ref a_sums, .ref a_other, .int g_step, .int g_coverMany, .ref a_grid, .ref a_order, .int g_leastSums, .int g_leastPart])), (a_now, .inl (cZ, 164, .inl g_now)), (a_before, .inl (cZ, 984, .inl g_before)), (a_first, .inl (cI, 41, .inl g_first)), (a_second, .inl (cI, 41, .inl g_second)), (a_sums, .inl (cZ, 241, .inl q.2))] H → va_D A [(a_this, .inr (8, [.int g_length, .ref a_text, .ref a_now, .ref a_before, .int g_undoMany, .ref a_read, .int g_spot, .ref a_first, .ref a_second, .ref a_sums, .ref a_other, .int g_step, .int g_coverMany, .ref a_grid, .ref a_order, .int g_leastSums, .int g_leastPart])), (a_now, .inl (cZ, 164, .inl g_now)), (a_before, .inl (cZ, 984, .inl g_before)), (a_first, .inl (cI, 41, .inl g_first)), (a_second, .inl (cI, 41, .inl g_second)), (a_sums, .inl (cZ, 241, .inl q.2))] → va_S A s.heap H locs → lv_has ls 5 [(0, .ref a_this), (1, .int x1), (4, .int q.1)] → W p l e rmX8_shrink s m ([.ref a_this, .int q1, .int q2, .int q3] : List Value).toArray below meth c H locs 0 0 (MQ below (cQi D r0 A [(a_this, .inr (8, [.int g_length, .ref a_text, .ref a_now, .ref a_before, .int v_undoMany, .ref a_read, .int g_spot, .ref a_first, .ref a_second, .ref a_sums, .ref a_other, .int g_step, .int g_coverMany, .ref a_grid, .ref a_order, .int v_leastSums, .int v_leastPart])), (a_now, .inl (cZ, 164, .inl v_now)), (a_before, .inl (cZ, 984, .inl v_before)), (a_first, .inl (cI, 41, .inl v_first)), (a_second, .inl (cI, 41, .inl v_second)), (a_sums, .inl (cZ, 241, .inl v_sums))]) ([.ref a_this, .int q1, .int q2, .int q3] : List Value).toArray s 0 0 A) (F0 m 38 ls []) := ⟨_, rfl⟩
    have key : ∀ (q : Int32 × (Nat → Int32)) (t : Int32 × Int32 × Int32 × Int32 × (Nat → Int32) × (Nat → Int32) × (Nat → Int32) × (Nat → Int32) × (Nat → Int32)), run (sX8_shrink_38 x1 g_undoMany g_leastSums g_leastPart g_now g_before g_first g_second) q = some t → (fun z => z = (r0, v_undoMany, v_leastSums, v_leastPart, v_now, v_before, v_first, v_second, v_sums)) t → F38 q := by
      refine loop_rule (sX8_shrink_38 x1 g_undoMany g_leastSums g_leastPart g_now g_before g_first g_second) F38 (fun z => z = (r0, v_undoMany, v_leastSums, v_leastPart, v_now, v_before, v_first, v_second, v_sums)) ?_
      intro q t hf hF
      have hF : (Sum.elim F38 (fun z => z = (r0, v_undoMany, v_leastSums, v_leastPart, v_now, v_before, v_first, v_second, v_sums))) t := hF
      rw [eF38]
      obtain ⟨x4, g_sums⟩ := q
      intro H locs ls hP hD hS hl
      have hP : va_P D vwCl [(a_this, .inr (8, [.int g_length, .ref a_text, .ref a_now, .ref a_before, .int g_undoMany, .ref a_read, .int g_spot, .ref a_first, .ref a_second, .ref a_sums, .ref a_other, .int g_step, .int g_coverMany, .ref a_grid, .ref a_order, .int g_leastSums, .int g_leastPart])), (a_now, .inl (cZ, 164, .inl g_now)), (a_before, .inl (cZ, 984, .inl g_before)), (a_first, .inl (cI, 41, .inl g_first)), (a_second, .inl (cI, 41, .inl g_second)), (a_sums, .inl (cZ, 241, .inl g_sums))] H := hP
      have hD : va_D A [(a_this, .inr (8, [.int g_length, .ref a_text, .ref a_now, .ref a_before, .int g_undoMany, .ref a_read, .int g_spot, .ref a_first, .ref a_second, .ref a_sums, .ref a_other, .int g_step, .int g_coverMany, .ref a_grid, .ref a_order, .int g_leastSums, .int g_leastPart])), (a_now, .inl (cZ, 164, .inl g_now)), (a_before, .inl (cZ, 984, .inl g_before)), (a_first, .inl (cI, 41, .inl g_first)), (a_second, .inl (cI, 41, .inl g_second)), (a_sums, .inl (cZ, 241, .inl g_sums))] := hD
      have hl : lv_has ls 5 [(0, .ref a_this), (1, .int x1), (4, .int x4)] := hl
      have hf : bX8_shrink_38 x1 g_undoMany g_leastSums g_leastPart g_now g_before g_first g_second x4 g_sums = some t := hf
      unfold bX8_shrink_38 at hf
      refine lv_iload hx hb dX8_shrink_38 (lv_at hl 2 rfl) ?_
      refine lv_bipush (v := 41) hx hb dX8_shrink_40 (by decide) ?_
      refine lv_icmp_ge (tgt := 59) hx hb dX8_shrink_42 (by decide) (fun c8 => ?_) (fun c8 => ?_)
      · have hf := br_pos c8 hf
        refine lv_iconst (v := 0) hx hb dX8_shrink_59 (by decide) ?_
        refine lv_istore (lv' := [(4, .int (0 : Int32)), (0, .ref a_this), (1, .int x1)]) hx hb dX8_shrink_60 hl (by decide) rfl (fun ls hl => ?_)
        obtain ⟨t9, hf, hF⟩ := ml_fin hf hF
        have hF : t9 = (r0, v_undoMany, v_leastSums, v_leastPart, v_now, v_before, v_first, v_second, v_sums) := hF
        rw [hF] at hf
        exact w62 x1 g_undoMany g_leastSums g_leastPart g_now g_before g_first g_second (0 : Int32) g_sums (r0, v_undoMany, v_leastSums, v_leastPart, v_now, v_before, v_first, v_second, v_sums) H locs ls hf rfl hP hD hS (lv_sub hl [1, 2, 0] rfl)
      · have hf := br_neg c8 hf
        refine lv_aload_n hx hb dX8_shrink_45 rfl (lv_at hl 0 rfl) ?_
        refine va_get (D := D) (ci := 8) (v := .ref a_sums) (C := RX8) (T := TX8) (N := 17) hx hb hts z2 hown hN.1 hP 0 rfl rfl 9 (by decide) z4 (fun _ h9 => h9) rfl dX8_shrink_46 ?_
        refine lv_iload hx hb dX8_shrink_49 (lv_at hl 2 rfl) ?_
        refine lv_iconst (v := 0) hx hb dX8_shrink_51 (by decide) ?_
        obtain ⟨c10, hf⟩ := gd_some hf
        refine va_zast hx hb hN.1 hP hD hS 5 3 rfl rfl (ix_in c10) dX8_shrink_52 (fun H locs hP hD hS => ?_)
        obtain ⟨y11, ey11⟩ : ∃ z, z = upd g_sums x4.toNatClampNeg (vp_nar .boolean (0 : Int32)) := ⟨_, rfl⟩
        have hf := lt_some hf y11 ey11
        have hP : va_P D vwCl [(a_this, .inr (8, [.int g_length, .ref a_text, .ref a_now, .ref a_before, .int g_undoMany, .ref a_read, .int g_spot, .ref a_first, .ref a_second, .ref a_sums, .ref a_other, .int g_step, .int g_coverMany, .ref a_grid, .ref a_order, .int g_leastSums, .int g_leastPart])), (a_now, .inl (cZ, 164, .inl g_now)), (a_before, .inl (cZ, 984, .inl g_before)), (a_first, .inl (cI, 41, .inl g_first)), (a_second, .inl (cI, 41, .inl g_second)), (a_sums, .inl (cZ, 241, .inl y11))] H := by rw [ey11]; exact hP
        have hD : va_D A [(a_this, .inr (8, [.int g_length, .ref a_text, .ref a_now, .ref a_before, .int g_undoMany, .ref a_read, .int g_spot, .ref a_first, .ref a_second, .ref a_sums, .ref a_other, .int g_step, .int g_coverMany, .ref a_grid, .ref a_order, .int g_leastSums, .int g_leastPart])), (a_now, .inl (cZ, 164, .inl g_now)), (a_before, .inl (cZ, 984, .inl g_before)), (a_first, .inl (cI, 41, .inl g_first)), (a_second, .inl (cI, 41, .inl g_second)), (a_sums, .inl (cZ, 241, .inl y11))] := by rw [ey11]; exact hD
        obtain ⟨y12, ey12⟩ : ∃ z : Int32, z = x4 + (1 : Int32) := ⟨_, rfl⟩
        have hf := lt_some hf y12 ey12
        refine lv_iinc (v := y12) (lv' := [(4, .int y12), (0, .ref a_this), (1, .int x1)]) hx hb dX8_shrink_53 hl (k := 2) rfl (by rw [ey12]; rfl) (by decide) rfl (fun ls hl => ?_)
        refine lv_goto (tgt := 38) hx hb dX8_shrink_56 (by decide) ?_
        cases hf
        exact ((congrFun eF38 _).mp hF) H locs ls hP hD hS (lv_sub hl [1, 2, 0] rfl)
    intro x4 g_sums t H locs ls hf hF hP hD hS hl
    exact ((congrFun eF38 _).mp (key ((x4, g_sums)) t hf hF)) H locs ls hP hD hS hl
  unfold fX8_shrink at hf
  obtain ⟨H, eH⟩ : ∃ z, z = s.heap := ⟨_, rfl⟩
  obtain ⟨locs, eL⟩ : ∃ z : List Loc, z = [] := ⟨_, rfl⟩
  have hP : va_P D vwCl [(a_this, .inr (8, [.int g_length, .ref a_text, .ref a_now, .ref a_before, .int g_undoMany, .ref a_read, .int g_spot, .ref a_first, .ref a_second, .ref a_sums, .ref a_other, .int g_step, .int g_coverMany, .ref a_grid, .ref a_order, .int g_leastSums, .int g_leastPart])), (a_now, .inl (cZ, 164, .inl g_now)), (a_before, .inl (cZ, 984, .inl g_before)), (a_first, .inl (cI, 41, .inl g_first)), (a_second, .inl (cI, 41, .inl g_second)), (a_sums, .inl (cZ, 241, .inl g_sums))] H := by rw [eH]; exact hP
  have hS : va_S A s.heap H locs := by rw [eH, eL]; exact hS
  suffices hG : W p l e rmX8_shrink s m ([.ref a_this, .int q1, .int q2, .int q3] : List Value).toArray below meth c H locs 0 0 (MQ below (cQi D r0 A [(a_this, .inr (8, [.int g_length, .ref a_text, .ref a_now, .ref a_before, .int v_undoMany, .ref a_read, .int g_spot, .ref a_first, .ref a_second, .ref a_sums, .ref a_other, .int g_step, .int g_coverMany, .ref a_grid, .ref a_order, .int v_leastSums, .int v_leastPart])), (a_now, .inl (cZ, 164, .inl v_now)), (a_before, .inl (cZ, 984, .inl v_before)), (a_first, .inl (cI, 41, .inl v_first)), (a_second, .inl (cI, 41, .inl v_second)), (a_sums, .inl (cZ, 241, .inl v_sums))]) ([.ref a_this, .int q1, .int q2, .int q3] : List Value).toArray s 0 0 A) (F0 m 0 ls []) by rw [eH, eL] at hG; exact hG
  refine lv_iload_n hx hb dX8_shrink_0 rfl (lv_at hl 1 rfl) ?_
  obtain ⟨u13, hu13, hf⟩ := bd_some hf
  refine caSI (rest := []) (As := [.int q1]) (wr := [(a_this, .inr (8, [.int g_length, .ref a_text, .ref a_now, .ref a_before, .int g_undoMany, .ref a_read, .int g_spot, .ref a_first, .ref a_second, .ref a_sums, .ref a_other, .int g_step, .int g_coverMany, .ref a_grid, .ref a_order, .int g_leastSums, .int g_leastPart])), (a_now, .inl (cZ, 164, .inl g_now)), (a_before, .inl (cZ, 984, .inl g_before)), (a_first, .inl (cI, 41, .inl g_first)), (a_second, .inl (cI, 41, .inl g_second)), (a_sums, .inl (cZ, 241, .inl g_sums))]) (wo := [(a_this, .inr (8, [.int g_length, .ref a_text, .ref a_now, .ref a_before, .int g_undoMany, .ref a_read, .int g_spot, .ref a_first, .ref a_second, .ref a_sums, .ref a_other, .int g_step, .int g_coverMany, .ref a_grid, .ref a_order, .int g_leastSums, .int g_leastPart])), (a_now, .inl (cZ, 164, .inl g_now)), (a_before, .inl (cZ, 984, .inl g_before)), (a_first, .inl (cI, 41, .inl g_first)), (a_second, .inl (cI, 41, .inl g_second)), (a_sums, .inl (cZ, 241, .inl g_sums))]) ⟨hx, hb, hml, hown, hts⟩ hN hP hD hS hA (cX8_isSlot_ct l D cI cL cC cZ q1 u13 hu13) z6 [] [0, 1, 2, 3, 4, 5] [0, 1, 2, 3, 4, 5] rfl (by decide) rfl (by decide) (by decide) rfl (by decide) rfl hl.1 rfl (Nat.le_of_ble_eq_true rfl) dX8_shrink_1 ⟨Nat.zero_le _, Nat.zero_le _⟩ (fun H locs hP hD hS => ?_)
  refine lv_if_eq (tgt := 21) hx hb dX8_shrink_4 (by decide) (fun c14 => ?_) (fun c14 => ?_)
  · have hf := br_pos c14 hf
    refine lv_iconst (v := -1) hx hb dX8_shrink_21 (by decide) ?_
    have hE : ((-1 : Int32), g_undoMany, g_leastSums, g_leastPart, g_now, g_before, g_first, g_second, g_sums) = (r0, v_undoMany, v_leastSums, v_leastPart, v_now, v_before, v_first, v_second, v_sums) := Option.some.inj hf
    simp only [Prod.mk.injEq] at hE
    obtain ⟨rfl, rfl, rfl, rfl, rfl, rfl, rfl, rfl, rfl⟩ := hE
    exact rtI hx hb hr hlk hP hD hS dX8_shrink_22
  · have hf := br_neg c14 hf
    refine lv_iload_n hx hb dX8_shrink_7 rfl (lv_at hl 2 rfl) ?_
    obtain ⟨u15, hu15, hf⟩ := bd_some hf
    refine caSI (rest := []) (As := [.int q2]) (wr := [(a_this, .inr (8, [.int g_length, .ref a_text, .ref a_now, .ref a_before, .int g_undoMany, .ref a_read, .int g_spot, .ref a_first, .ref a_second, .ref a_sums, .ref a_other, .int g_step, .int g_coverMany, .ref a_grid, .ref a_order, .int g_leastSums, .int g_leastPart])), (a_now, .inl (cZ, 164, .inl g_now)), (a_before, .inl (cZ, 984, .inl g_before)), (a_first, .inl (cI, 41, .inl g_first)), (a_second, .inl (cI, 41, .inl g_second)), (a_sums, .inl (cZ, 241, .inl g_sums))]) (wo := [(a_this, .inr (8, [.int g_length, .ref a_text, .ref a_now, .ref a_before, .int g_undoMany, .ref a_read, .int g_spot, .ref a_first, .ref a_second, .ref a_sums, .ref a_other, .int g_step, .int g_coverMany, .ref a_grid, .ref a_order, .int g_leastSums, .int g_leastPart])), (a_now, .inl (cZ, 164, .inl g_now)), (a_before, .inl (cZ, 984, .inl g_before)), (a_first, .inl (cI, 41, .inl g_first)), (a_second, .inl (cI, 41, .inl g_second)), (a_sums, .inl (cZ, 241, .inl g_sums))]) ⟨hx, hb, hml, hown, hts⟩ hN hP hD hS hA (cX8_isSlot_ct l D cI cL cC cZ q2 u15 hu15) z6 [] [0, 1, 2, 3, 4, 5] [0, 1, 2, 3, 4, 5] rfl (by decide) rfl (by decide) (by decide) rfl (by decide) rfl hl.1 rfl (Nat.le_of_ble_eq_true rfl) dX8_shrink_8 ⟨Nat.zero_le _, Nat.zero_le _⟩ (fun H locs hP hD hS => ?_)
    refine lv_if_eq (tgt := 21) hx hb dX8_shrink_11 (by decide) (fun c16 => ?_) (fun c16 => ?_)
    · have hf := br_pos c16 hf
      refine lv_iconst (v := -1) hx hb dX8_shrink_21 (by decide) ?_
      have hE : ((-1 : Int32), g_undoMany, g_leastSums, g_leastPart, g_now, g_before, g_first, g_second, g_sums) = (r0, v_undoMany, v_leastSums, v_leastPart, v_now, v_before, v_first, v_second, v_sums) := Option.some.inj hf
      simp only [Prod.mk.injEq] at hE
      obtain ⟨rfl, rfl, rfl, rfl, rfl, rfl, rfl, rfl, rfl⟩ := hE
      exact rtI hx hb hr hlk hP hD hS dX8_shrink_22
    · have hf := br_neg c16 hf
      refine lv_iload_n hx hb dX8_shrink_14 rfl (lv_at hl 3 rfl) ?_
      obtain ⟨u17, hu17, hf⟩ := bd_some hf
      refine caSI (rest := []) (As := [.int q3]) (wr := [(a_this, .inr (8, [.int g_length, .ref a_text, .ref a_now, .ref a_before, .int g_undoMany, .ref a_read, .int g_spot, .ref a_first, .ref a_second, .ref a_sums, .ref a_other, .int g_step, .int g_coverMany, .ref a_grid, .ref a_order, .int g_leastSums, .int g_leastPart])), (a_now, .inl (cZ, 164, .inl g_now)), (a_before, .inl (cZ, 984, .inl g_before)), (a_first, .inl (cI, 41, .inl g_first)), (a_second, .inl (cI, 41, .inl g_second)), (a_sums, .inl (cZ, 241, .inl g_sums))]) (wo := [(a_this, .inr (8, [.int g_length, .ref a_text, .ref a_now, .ref a_before, .int g_undoMany, .ref a_read, .int g_spot, .ref a_first, .ref a_second, .ref a_sums, .ref a_other, .int g_step, .int g_coverMany, .ref a_grid, .ref a_order, .int g_leastSums, .int g_leastPart])), (a_now, .inl (cZ, 164, .inl g_now)), (a_before, .inl (cZ, 984, .inl g_before)), (a_first, .inl (cI, 41, .inl g_first)), (a_second, .inl (cI, 41, .inl g_second)), (a_sums, .inl (cZ, 241, .inl g_sums))]) ⟨hx, hb, hml, hown, hts⟩ hN hP hD hS hA (cX8_isSlot_ct l D cI cL cC cZ q3 u17 hu17) z6 [] [0, 1, 2, 3, 4, 5] [0, 1, 2, 3, 4, 5] rfl (by decide) rfl (by decide) (by decide) rfl (by decide) rfl hl.1 rfl (Nat.le_of_ble_eq_true rfl) dX8_shrink_15 ⟨Nat.zero_le _, Nat.zero_le _⟩ (fun H locs hP hD hS => ?_)
      refine lv_if_ne (tgt := 23) hx hb dX8_shrink_18 (by decide) (fun c18 => ?_) (fun c18 => ?_)
      · have hf := br_neg c18 hf
        refine lv_aload_n hx hb dX8_shrink_23 rfl (lv_at hl 0 rfl) ?_
        refine lv_iload_n hx hb dX8_shrink_24 rfl (lv_at hl 2 rfl) ?_
        refine lv_iload_n hx hb dX8_shrink_25 rfl (lv_at hl 3 rfl) ?_
        obtain ⟨u19, hu19, hf⟩ := bd_some hf
        refine caVI (rest := []) (As := [.int q2, .int q3]) (wr := [(a_before, .inl (cZ, 984, .inl g_before))]) (wo := [(a_this, .inr (8, [.int g_length, .ref a_text, .ref a_now, .ref a_before, .int g_undoMany, .ref a_read, .int g_spot, .ref a_first, .ref a_second, .ref a_sums, .ref a_other, .int g_step, .int g_coverMany, .ref a_grid, .ref a_order, .int u19.2.1, .int u19.2.2.1])), (a_now, .inl (cZ, 164, .inl g_now)), (a_before, .inl (cZ, 984, .inl g_before)), (a_first, .inl (cI, 41, .inl u19.2.2.2.1)), (a_second, .inl (cI, 41, .inl u19.2.2.2.2.1)), (a_sums, .inl (cZ, 241, .inl u19.2.2.2.2.2))]) ⟨hx, hb, hml, hown, hts⟩ hN hP hD hS hA (cX8_findLeast_ct l D cI cL cC cZ a_this a_text a_now a_before a_read a_first a_second a_sums a_other a_grid a_order g_length g_undoMany g_spot g_step g_coverMany g_leastSums g_leastPart g_now g_first g_second g_sums q2 q3 u19.1 u19.2.1 u19.2.2.1 u19.2.2.2.1 u19.2.2.2.2.1 u19.2.2.2.2.2 hu19) z7 0 8 rfl rfl [0, 1, 3, 4, 5] [2] [1, 2, 0, 3, 4, 5] rfl (by decide) rfl (by decide) (by decide) rfl (by decide) rfl hl.1 rfl (Nat.le_of_ble_eq_true rfl) dX8_shrink_26 ⟨Nat.zero_le _, Nat.zero_le _⟩ (fun H locs hP hD hS => ?_)
        refine lv_if_ne (tgt := 35) hx hb dX8_shrink_29 (by decide) (fun c20 => ?_) (fun c20 => ?_)
        · have hf := br_neg c20 hf
          refine lv_iconst (v := 0) hx hb dX8_shrink_35 (by decide) ?_
          refine lv_istore (lv' := [(4, .int (0 : Int32)), (0, .ref a_this), (1, .int q1), (2, .int q2), (3, .int q3)]) hx hb dX8_shrink_36 hl (by decide) rfl (fun ls hl => ?_)
          exact w38 q1 g_undoMany u19.2.1 u19.2.2.1 g_now g_before u19.2.2.2.1 u19.2.2.2.2.1 (0 : Int32) u19.2.2.2.2.2 (r0, v_undoMany, v_leastSums, v_leastPart, v_now, v_before, v_first, v_second, v_sums) H locs ls hf rfl hP hD hS (lv_sub hl [1, 2, 0] rfl)
        · have hf := br_pos c20 hf
          refine lv_bipush (v := -2) hx hb dX8_shrink_32 (by decide) ?_
          have hE : ((-2 : Int32), g_undoMany, u19.2.1, u19.2.2.1, g_now, g_before, u19.2.2.2.1, u19.2.2.2.2.1, u19.2.2.2.2.2) = (r0, v_undoMany, v_leastSums, v_leastPart, v_now, v_before, v_first, v_second, v_sums) := Option.some.inj hf
          simp only [Prod.mk.injEq] at hE
          obtain ⟨rfl, rfl, rfl, rfl, rfl, rfl, rfl, rfl, rfl⟩ := hE
          exact rtI hx hb hr hlk hP hD hS dX8_shrink_34
      · have hf := br_pos c18 hf
        refine lv_iconst (v := -1) hx hb dX8_shrink_21 (by decide) ?_
        have hE : ((-1 : Int32), g_undoMany, g_leastSums, g_leastPart, g_now, g_before, g_first, g_second, g_sums) = (r0, v_undoMany, v_leastSums, v_leastPart, v_now, v_before, v_first, v_second, v_sums) := Option.some.inj hf
        simp only [Prod.mk.injEq] at hE
        obtain ⟨rfl, rfl, rfl, rfl, rfl, rfl, rfl, rfl, rfl⟩ := hE
        exact rtI hx hb hr hlk hP hD hS dX8_shrink_22
abbrev rmX8_floor : Room := { frames := 2, cells := 0, slots := 0, locals := 45 }
noncomputable def bX8_floor_38 (g_now : Nat → Int32) : Option (Int32) := some ((-2 : Int32))
noncomputable def fX8_floor (q1 : Int32) (q2 : Int32) (g_now : Nat → Int32) : Option (Int32) := bd (fX8_isSlot q1) (fun u1 => br (u1 = 0) (some ((-1 : Int32))) (bd (fX8_isSlot q2) (fun u3 => br (u3 = 0) (some ((-1 : Int32))) (bd (fX8_manyOf q1 g_now) (fun u5 => bd (fX8_manyOf q2 g_now) (fun u6 => br (u5 = 0) (bX8_floor_38 g_now) (br (u6 = 0) (bX8_floor_38 g_now) (some ((u5 + u6) - (1 : Int32))))))))))
set_option maxHeartbeats 4000000 in
set_option maxRecDepth 100000 in
theorem cX8_floor_ct (l : Launch) (D : va_G) (cI cL cC cZ : ClassId) (a_this a_text a_now a_before a_read a_first a_second a_sums a_other a_grid a_order : Nat) (g_length : Int32) (g_undoMany : Int32) (g_spot : Int32) (g_step : Int32) (g_coverMany : Int32) (g_leastSums : Int32) (g_leastPart : Int32) (g_now : Nat → Int32) (q1 : Int32) (q2 : Int32) (r0 : Int32) (hf : fX8_floor q1 q2 g_now = some r0) : CtI l yX8_floor wsX8_floor rmX8_floor D (tyz cI cL cC cZ) [.ref a_this, .int q1, .int q2] [(a_this, .inr (8, [.int g_length, .ref a_text, .ref a_now, .ref a_before, .int g_undoMany, .ref a_read, .int g_spot, .ref a_first, .ref a_second, .ref a_sums, .ref a_other, .int g_step, .int g_coverMany, .ref a_grid, .ref a_order, .int g_leastSums, .int g_leastPart])), (a_now, .inl (cZ, 164, .inl g_now))] [(a_this, .inr (8, [.int g_length, .ref a_text, .ref a_now, .ref a_before, .int g_undoMany, .ref a_read, .int g_spot, .ref a_first, .ref a_second, .ref a_sums, .ref a_other, .int g_step, .int g_coverMany, .ref a_grid, .ref a_order, .int g_leastSums, .int g_leastPart])), (a_now, .inl (cZ, 164, .inl g_now))] r0 := by
  refine CtI.make (cc := cX8_floor) (maxL := 5) (ty := .int) (by decide) rfl (Nat.le_of_ble_eq_true rfl) ?_
  intro p e s m below meth c A ls C0 hN hA hP hD hl
  obtain ⟨hx, hb, hr, hml, hown, hts, hlk⟩ := id C0
  have hown : s.vm.findClass RX8 = some m.cls := hown
  have hS : va_S A s.heap s.heap [] := va_S.rf
  have hP : va_P D vwCl [(a_this, .inr (8, [.int g_length, .ref a_text, .ref a_now, .ref a_before, .int g_undoMany, .ref a_read, .int g_spot, .ref a_first, .ref a_second, .ref a_sums, .ref a_other, .int g_step, .int g_coverMany, .ref a_grid, .ref a_order, .int g_leastSums, .int g_leastPart])), (a_now, .inl (cZ, 164, .inl g_now))] s.heap := hP
  have hD : va_D A [(a_this, .inr (8, [.int g_length, .ref a_text, .ref a_now, .ref a_before, .int g_undoMany, .ref a_read, .int g_spot, .ref a_first, .ref a_second, .ref a_sums, .ref a_other, .int g_step, .int g_coverMany, .ref a_grid, .ref a_order, .int g_leastSums, .int g_leastPart])), (a_now, .inl (cZ, 164, .inl g_now))] := hD
  have hl : lv_has ls 5 [(0, .ref a_this), (1, .int q1), (2, .int q2)] := hl
  have z1 := va_cwS (R := rmX8_floor) (rm := rmX8_isSlot) (mc := 0) (ms := 0) 1 hts gX8_floor_X8_isSlot rfl rfl rfl (by decide +kernel) ⟨Nat.le_of_ble_eq_true rfl, Nat.le_of_ble_eq_true rfl⟩
  have z2 := cwV (R := rmX8_floor) (rm := rmX8_manyOf) (mc := 0) (ms := 0) 1 hts gX8_floor_X8_manyOf rfl rfl rfl (by decide +kernel) ⟨Nat.le_of_ble_eq_true rfl, Nat.le_of_ble_eq_true rfl⟩
  have w38 : ∀ (g_now : Nat → Int32) (H : Heap) (locs : List Loc) (ls : Array Slot), bX8_floor_38 g_now = some r0 → va_P D vwCl [(a_this, .inr (8, [.int g_length, .ref a_text, .ref a_now, .ref a_before, .int g_undoMany, .ref a_read, .int g_spot, .ref a_first, .ref a_second, .ref a_sums, .ref a_other, .int g_step, .int g_coverMany, .ref a_grid, .ref a_order, .int g_leastSums, .int g_leastPart])), (a_now, .inl (cZ, 164, .inl g_now))] H → va_D A [(a_this, .inr (8, [.int g_length, .ref a_text, .ref a_now, .ref a_before, .int g_undoMany, .ref a_read, .int g_spot, .ref a_first, .ref a_second, .ref a_sums, .ref a_other, .int g_step, .int g_coverMany, .ref a_grid, .ref a_order, .int g_leastSums, .int g_leastPart])), (a_now, .inl (cZ, 164, .inl g_now))] → va_S A s.heap H locs → lv_has ls 5 [] → W p l e rmX8_floor s m ([.ref a_this, .int q1, .int q2] : List Value).toArray below meth c H locs 0 0 (MQ below (cQi D r0 A [(a_this, .inr (8, [.int g_length, .ref a_text, .ref a_now, .ref a_before, .int g_undoMany, .ref a_read, .int g_spot, .ref a_first, .ref a_second, .ref a_sums, .ref a_other, .int g_step, .int g_coverMany, .ref a_grid, .ref a_order, .int g_leastSums, .int g_leastPart])), (a_now, .inl (cZ, 164, .inl g_now))]) ([.ref a_this, .int q1, .int q2] : List Value).toArray s 0 0 A) (F0 m 38 ls []) := by
    intro g_now H locs ls hf hP hD hS hl
    unfold bX8_floor_38 at hf
    refine lv_bipush (v := -2) hx hb dX8_floor_38 (by decide) ?_
    refine lv_goto (tgt := 49) hx hb dX8_floor_40 (by decide) ?_
    have hE : (-2 : Int32) = r0 := Option.some.inj hf
    subst hE
    exact rtI hx hb hr hlk hP hD hS dX8_floor_49
  unfold fX8_floor at hf
  obtain ⟨H, eH⟩ : ∃ z, z = s.heap := ⟨_, rfl⟩
  obtain ⟨locs, eL⟩ : ∃ z : List Loc, z = [] := ⟨_, rfl⟩
  have hP : va_P D vwCl [(a_this, .inr (8, [.int g_length, .ref a_text, .ref a_now, .ref a_before, .int g_undoMany, .ref a_read, .int g_spot, .ref a_first, .ref a_second, .ref a_sums, .ref a_other, .int g_step, .int g_coverMany, .ref a_grid, .ref a_order, .int g_leastSums, .int g_leastPart])), (a_now, .inl (cZ, 164, .inl g_now))] H := by rw [eH]; exact hP
  have hS : va_S A s.heap H locs := by rw [eH, eL]; exact hS
  suffices hG : W p l e rmX8_floor s m ([.ref a_this, .int q1, .int q2] : List Value).toArray below meth c H locs 0 0 (MQ below (cQi D r0 A [(a_this, .inr (8, [.int g_length, .ref a_text, .ref a_now, .ref a_before, .int g_undoMany, .ref a_read, .int g_spot, .ref a_first, .ref a_second, .ref a_sums, .ref a_other, .int g_step, .int g_coverMany, .ref a_grid, .ref a_order, .int g_leastSums, .int g_leastPart])), (a_now, .inl (cZ, 164, .inl g_now))]) ([.ref a_this, .int q1, .int q2] : List Value).toArray s 0 0 A) (F0 m 0 ls []) by rw [eH, eL] at hG; exact hG
  refine lv_iload_n hx hb dX8_floor_0 rfl (lv_at hl 1 rfl) ?_
  obtain ⟨u1, hu1, hf⟩ := bd_some hf
  refine caSI (rest := []) (As := [.int q1]) (wr := [(a_this, .inr (8, [.int g_length, .ref a_text, .ref a_now, .ref a_before, .int g_undoMany, .ref a_read, .int g_spot, .ref a_first, .ref a_second, .ref a_sums, .ref a_other, .int g_step, .int g_coverMany, .ref a_grid, .ref a_order, .int g_leastSums, .int g_leastPart])), (a_now, .inl (cZ, 164, .inl g_now))]) (wo := [(a_this, .inr (8, [.int g_length, .ref a_text, .ref a_now, .ref a_before, .int g_undoMany, .ref a_read, .int g_spot, .ref a_first, .ref a_second, .ref a_sums, .ref a_other, .int g_step, .int g_coverMany, .ref a_grid, .ref a_order, .int g_leastSums, .int g_leastPart])), (a_now, .inl (cZ, 164, .inl g_now))]) ⟨hx, hb, hml, hown, hts⟩ hN hP hD hS hA (cX8_isSlot_ct l D cI cL cC cZ q1 u1 hu1) z1 [] [0, 1] [0, 1] rfl (by decide) rfl (by decide) (by decide) rfl (by decide) rfl hl.1 rfl (Nat.le_of_ble_eq_true rfl) dX8_floor_1 ⟨Nat.zero_le _, Nat.zero_le _⟩ (fun H locs hP hD hS => ?_)
  refine lv_if_eq (tgt := 14) hx hb dX8_floor_4 (by decide) (fun c2 => ?_) (fun c2 => ?_)
  · have hf := br_pos c2 hf
    refine lv_iconst (v := -1) hx hb dX8_floor_14 (by decide) ?_
    have hE : (-1 : Int32) = r0 := Option.some.inj hf
    subst hE
    exact rtI hx hb hr hlk hP hD hS dX8_floor_15
  · have hf := br_neg c2 hf
    refine lv_iload_n hx hb dX8_floor_7 rfl (lv_at hl 2 rfl) ?_
    obtain ⟨u3, hu3, hf⟩ := bd_some hf
    refine caSI (rest := []) (As := [.int q2]) (wr := [(a_this, .inr (8, [.int g_length, .ref a_text, .ref a_now, .ref a_before, .int g_undoMany, .ref a_read, .int g_spot, .ref a_first, .ref a_second, .ref a_sums, .ref a_other, .int g_step, .int g_coverMany, .ref a_grid, .ref a_order, .int g_leastSums, .int g_leastPart])), (a_now, .inl (cZ, 164, .inl g_now))]) (wo := [(a_this, .inr (8, [.int g_length, .ref a_text, .ref a_now, .ref a_before, .int g_undoMany, .ref a_read, .int g_spot, .ref a_first, .ref a_second, .ref a_sums, .ref a_other, .int g_step, .int g_coverMany, .ref a_grid, .ref a_order, .int g_leastSums, .int g_leastPart])), (a_now, .inl (cZ, 164, .inl g_now))]) ⟨hx, hb, hml, hown, hts⟩ hN hP hD hS hA (cX8_isSlot_ct l D cI cL cC cZ q2 u3 hu3) z1 [] [0, 1] [0, 1] rfl (by decide) rfl (by decide) (by decide) rfl (by decide) rfl hl.1 rfl (Nat.le_of_ble_eq_true rfl) dX8_floor_8 ⟨Nat.zero_le _, Nat.zero_le _⟩ (fun H locs hP hD hS => ?_)
    refine lv_if_ne (tgt := 16) hx hb dX8_floor_11 (by decide) (fun c4 => ?_) (fun c4 => ?_)
    · have hf := br_neg c4 hf
      refine lv_aload_n hx hb dX8_floor_16 rfl (lv_at hl 0 rfl) ?_
      refine lv_iload_n hx hb dX8_floor_17 rfl (lv_at hl 1 rfl) ?_
      obtain ⟨u5, hu5, hf⟩ := bd_some hf
      refine caVI (rest := []) (As := [.int q1]) (wr := []) (wo := [(a_this, .inr (8, [.int g_length, .ref a_text, .ref a_now, .ref a_before, .int g_undoMany, .ref a_read, .int g_spot, .ref a_first, .ref a_second, .ref a_sums, .ref a_other, .int g_step, .int g_coverMany, .ref a_grid, .ref a_order, .int g_leastSums, .int g_leastPart])), (a_now, .inl (cZ, 164, .inl g_now))]) ⟨hx, hb, hml, hown, hts⟩ hN hP hD hS hA (cX8_manyOf_ct l D cI cL cC cZ a_this a_text a_now a_before a_read a_first a_second a_sums a_other a_grid a_order g_length g_undoMany g_spot g_step g_coverMany g_leastSums g_leastPart g_now q1 u5 hu5) z2 0 8 rfl rfl [0, 1] [] [0, 1] rfl (by decide) rfl (by decide) (by decide) rfl (by decide) rfl hl.1 rfl (Nat.le_of_ble_eq_true rfl) dX8_floor_18 ⟨Nat.zero_le _, Nat.zero_le _⟩ (fun H locs hP hD hS => ?_)
      refine lv_istore_n (lv' := [(3, .int u5), (0, .ref a_this), (1, .int q1), (2, .int q2)]) hx hb dX8_floor_21 rfl hl (by decide) rfl (fun ls hl => ?_)
      refine lv_aload_n hx hb dX8_floor_22 rfl (lv_at hl 1 rfl) ?_
      refine lv_iload_n hx hb dX8_floor_23 rfl (lv_at hl 3 rfl) ?_
      obtain ⟨u6, hu6, hf⟩ := bd_some hf
      refine caVI (rest := []) (As := [.int q2]) (wr := []) (wo := [(a_this, .inr (8, [.int g_length, .ref a_text, .ref a_now, .ref a_before, .int g_undoMany, .ref a_read, .int g_spot, .ref a_first, .ref a_second, .ref a_sums, .ref a_other, .int g_step, .int g_coverMany, .ref a_grid, .ref a_order, .int g_leastSums, .int g_leastPart])), (a_now, .inl (cZ, 164, .inl g_now))]) ⟨hx, hb, hml, hown, hts⟩ hN hP hD hS hA (cX8_manyOf_ct l D cI cL cC cZ a_this a_text a_now a_before a_read a_first a_second a_sums a_other a_grid a_order g_length g_undoMany g_spot g_step g_coverMany g_leastSums g_leastPart g_now q2 u6 hu6) z2 0 8 rfl rfl [0, 1] [] [0, 1] rfl (by decide) rfl (by decide) (by decide) rfl (by decide) rfl hl.1 rfl (Nat.le_of_ble_eq_true rfl) dX8_floor_24 ⟨Nat.zero_le _, Nat.zero_le _⟩ (fun H locs hP hD hS => ?_)
      refine lv_istore (lv' := [(4, .int u6), (3, .int u5), (0, .ref a_this), (1, .int q1), (2, .int q2)]) hx hb dX8_floor_27 hl (by decide) rfl (fun ls hl => ?_)
      refine lv_iload_n hx hb dX8_floor_29 rfl (lv_at hl 1 rfl) ?_
      refine lv_if_eq (tgt := 38) hx hb dX8_floor_30 (by decide) (fun c7 => ?_) (fun c7 => ?_)
      · have hf := br_pos c7 hf
        exact w38 g_now H locs ls hf hP hD hS (lv_sub hl [] rfl)
      · have hf := br_neg c7 hf
        refine lv_iload hx hb dX8_floor_33 (lv_at hl 0 rfl) ?_
        refine lv_if_ne (tgt := 43) hx hb dX8_floor_35 (by decide) (fun c8 => ?_) (fun c8 => ?_)
        · have hf := br_neg c8 hf
          refine lv_iload_n hx hb dX8_floor_43 rfl (lv_at hl 1 rfl) ?_
          refine lv_iload hx hb dX8_floor_44 (lv_at hl 0 rfl) ?_
          refine lv_iadd hx hb dX8_floor_46 ?_
          refine lv_iconst (v := 1) hx hb dX8_floor_47 (by decide) ?_
          refine lv_isub hx hb dX8_floor_48 ?_
          have hE : (u5 + u6) - (1 : Int32) = r0 := Option.some.inj hf
          subst hE
          exact rtI hx hb hr hlk hP hD hS dX8_floor_49
        · have hf := br_pos c8 hf
          exact w38 g_now H locs ls hf hP hD hS (lv_sub hl [] rfl)
    · have hf := br_pos c4 hf
      refine lv_iconst (v := -1) hx hb dX8_floor_14 (by decide) ?_
      have hE : (-1 : Int32) = r0 := Option.some.inj hf
      subst hE
      exact rtI hx hb hr hlk hP hD hS dX8_floor_15
abbrev rmX8_tight : Room := { frames := 3, cells := 0, slots := 0, locals := 69 }
noncomputable def bX8_tight_46 (g_now : Nat → Int32) (g_first : Nat → Int32) (g_second : Nat → Int32) (g_sums : Nat → Int32) : Option (Int32 × (Nat → Int32) × (Nat → Int32) × (Nat → Int32)) := some (((0 : Int32), g_first, g_second, g_sums))
noncomputable def fX8_tight (q1 : Int32) (q2 : Int32) (g_now : Nat → Int32) (g_first : Nat → Int32) (g_second : Nat → Int32) (g_sums : Nat → Int32) : Option (Int32 × (Nat → Int32) × (Nat → Int32) × (Nat → Int32)) := bd (fX8_floor q1 q2 g_now) (fun u1 => br (0 ≤ u1) (bd (fX8_manyOf q1 g_now) (fun u3 => br (u3 ≤ (1 : Int32)) (bX8_tight_46 g_now g_first g_second g_sums) (bd (fX8_manyOf q2 g_now) (fun u5 => br (u5 ≤ (1 : Int32)) (bX8_tight_46 g_now g_first g_second g_sums) (bd (fX8_adds q1 q2 (1 : Int32) g_now g_first g_second g_sums) (fun u7 => br (u7.1 = u1) (some (((1 : Int32), u7.2.1, u7.2.2.1, u7.2.2.2))) (bX8_tight_46 g_now u7.2.1 u7.2.2.1 u7.2.2.2))))))) (some ((u1, g_first, g_second, g_sums))))
set_option maxHeartbeats 4000000 in
set_option maxRecDepth 100000 in
theorem cX8_tight_ct (l : Launch) (D : va_G) (cI cL cC cZ : ClassId) (a_this a_text a_now a_before a_read a_first a_second a_sums a_other a_grid a_order : Nat) (g_length : Int32) (g_undoMany : Int32) (g_spot : Int32) (g_step : Int32) (g_coverMany : Int32) (g_leastSums : Int32) (g_leastPart : Int32) (g_now : Nat → Int32) (g_first : Nat → Int32) (g_second : Nat → Int32) (g_sums : Nat → Int32) (q1 : Int32) (q2 : Int32) (r0 : Int32) (v_first : Nat → Int32) (v_second : Nat → Int32) (v_sums : Nat → Int32) (hf : fX8_tight q1 q2 g_now g_first g_second g_sums = some ((r0, v_first, v_second, v_sums))) : CtI l yX8_tight wsX8_tight rmX8_tight D (tyz cI cL cC cZ) [.ref a_this, .int q1, .int q2] [(a_this, .inr (8, [.int g_length, .ref a_text, .ref a_now, .ref a_before, .int g_undoMany, .ref a_read, .int g_spot, .ref a_first, .ref a_second, .ref a_sums, .ref a_other, .int g_step, .int g_coverMany, .ref a_grid, .ref a_order, .int g_leastSums, .int g_leastPart])), (a_now, .inl (cZ, 164, .inl g_now)), (a_first, .inl (cI, 41, .inl g_first)), (a_second, .inl (cI, 41, .inl g_second)), (a_sums, .inl (cZ, 241, .inl g_sums))] [(a_this, .inr (8, [.int g_length, .ref a_text, .ref a_now, .ref a_before, .int g_undoMany, .ref a_read, .int g_spot, .ref a_first, .ref a_second, .ref a_sums, .ref a_other, .int g_step, .int g_coverMany, .ref a_grid, .ref a_order, .int g_leastSums, .int g_leastPart])), (a_now, .inl (cZ, 164, .inl g_now)), (a_first, .inl (cI, 41, .inl v_first)), (a_second, .inl (cI, 41, .inl v_second)), (a_sums, .inl (cZ, 241, .inl v_sums))] r0 := by
  refine CtI.make (cc := cX8_tight) (maxL := 4) (ty := .int) (by decide) rfl (Nat.le_of_ble_eq_true rfl) ?_
  intro p e s m below meth c A ls C0 hN hA hP hD hl
  obtain ⟨hx, hb, hr, hml, hown, hts, hlk⟩ := id C0
  have hown : s.vm.findClass RX8 = some m.cls := hown
  have hS : va_S A s.heap s.heap [] := va_S.rf
  have hP : va_P D vwCl [(a_this, .inr (8, [.int g_length, .ref a_text, .ref a_now, .ref a_before, .int g_undoMany, .ref a_read, .int g_spot, .ref a_first, .ref a_second, .ref a_sums, .ref a_other, .int g_step, .int g_coverMany, .ref a_grid, .ref a_order, .int g_leastSums, .int g_leastPart])), (a_now, .inl (cZ, 164, .inl g_now)), (a_first, .inl (cI, 41, .inl g_first)), (a_second, .inl (cI, 41, .inl g_second)), (a_sums, .inl (cZ, 241, .inl g_sums))] s.heap := hP
  have hD : va_D A [(a_this, .inr (8, [.int g_length, .ref a_text, .ref a_now, .ref a_before, .int g_undoMany, .ref a_read, .int g_spot, .ref a_first, .ref a_second, .ref a_sums, .ref a_other, .int g_step, .int g_coverMany, .ref a_grid, .ref a_order, .int g_leastSums, .int g_leastPart])), (a_now, .inl (cZ, 164, .inl g_now)), (a_first, .inl (cI, 41, .inl g_first)), (a_second, .inl (cI, 41, .inl g_second)), (a_sums, .inl (cZ, 241, .inl g_sums))] := hD
  have hl : lv_has ls 4 [(0, .ref a_this), (1, .int q1), (2, .int q2)] := hl
  have z1 := cwV (R := rmX8_tight) (rm := rmX8_floor) (mc := 0) (ms := 0) 2 hts gX8_tight_X8_floor rfl rfl rfl (by decide +kernel) ⟨Nat.le_of_ble_eq_true rfl, Nat.le_of_ble_eq_true rfl⟩
  have z2 := cwV (R := rmX8_tight) (rm := rmX8_manyOf) (mc := 0) (ms := 0) 1 hts gX8_tight_X8_manyOf rfl rfl rfl (by decide +kernel) ⟨Nat.le_of_ble_eq_true rfl, Nat.le_of_ble_eq_true rfl⟩
  have z3 := cwV (R := rmX8_tight) (rm := rmX8_adds) (mc := 0) (ms := 0) 3 hts gX8_tight_X8_adds rfl rfl rfl (by decide +kernel) ⟨Nat.le_of_ble_eq_true rfl, Nat.le_of_ble_eq_true rfl⟩
  have w46 : ∀ (g_now : Nat → Int32) (g_first : Nat → Int32) (g_second : Nat → Int32) (g_sums : Nat → Int32) (H : Heap) (locs : List Loc) (ls : Array Slot), bX8_tight_46 g_now g_first g_second g_sums = some ((r0, v_first, v_second, v_sums)) → va_P D vwCl [(a_this, .inr (8, [.int g_length, .ref a_text, .ref a_now, .ref a_before, .int g_undoMany, .ref a_read, .int g_spot, .ref a_first, .ref a_second, .ref a_sums, .ref a_other, .int g_step, .int g_coverMany, .ref a_grid, .ref a_order, .int g_leastSums, .int g_leastPart])), (a_now, .inl (cZ, 164, .inl g_now)), (a_first, .inl (cI, 41, .inl g_first)), (a_second, .inl (cI, 41, .inl g_second)), (a_sums, .inl (cZ, 241, .inl g_sums))] H → va_D A [(a_this, .inr (8, [.int g_length, .ref a_text, .ref a_now, .ref a_before, .int g_undoMany, .ref a_read, .int g_spot, .ref a_first, .ref a_second, .ref a_sums, .ref a_other, .int g_step, .int g_coverMany, .ref a_grid, .ref a_order, .int g_leastSums, .int g_leastPart])), (a_now, .inl (cZ, 164, .inl g_now)), (a_first, .inl (cI, 41, .inl g_first)), (a_second, .inl (cI, 41, .inl g_second)), (a_sums, .inl (cZ, 241, .inl g_sums))] → va_S A s.heap H locs → lv_has ls 4 [] → W p l e rmX8_tight s m ([.ref a_this, .int q1, .int q2] : List Value).toArray below meth c H locs 0 0 (MQ below (cQi D r0 A [(a_this, .inr (8, [.int g_length, .ref a_text, .ref a_now, .ref a_before, .int g_undoMany, .ref a_read, .int g_spot, .ref a_first, .ref a_second, .ref a_sums, .ref a_other, .int g_step, .int g_coverMany, .ref a_grid, .ref a_order, .int g_leastSums, .int g_leastPart])), (a_now, .inl (cZ, 164, .inl g_now)), (a_first, .inl (cI, 41, .inl v_first)), (a_second, .inl (cI, 41, .inl v_second)), (a_sums, .inl (cZ, 241, .inl v_sums))]) ([.ref a_this, .int q1, .int q2] : List Value).toArray s 0 0 A) (F0 m 46 ls []) := by
    intro g_now g_first g_second g_sums H locs ls hf hP hD hS hl
    unfold bX8_tight_46 at hf
    refine lv_iconst (v := 0) hx hb dX8_tight_46 (by decide) ?_
    have hE : ((0 : Int32), g_first, g_second, g_sums) = (r0, v_first, v_second, v_sums) := Option.some.inj hf
    simp only [Prod.mk.injEq] at hE
    obtain ⟨rfl, rfl, rfl, rfl⟩ := hE
    exact rtI hx hb hr hlk hP hD hS dX8_tight_47
  unfold fX8_tight at hf
  obtain ⟨H, eH⟩ : ∃ z, z = s.heap := ⟨_, rfl⟩
  obtain ⟨locs, eL⟩ : ∃ z : List Loc, z = [] := ⟨_, rfl⟩
  have hP : va_P D vwCl [(a_this, .inr (8, [.int g_length, .ref a_text, .ref a_now, .ref a_before, .int g_undoMany, .ref a_read, .int g_spot, .ref a_first, .ref a_second, .ref a_sums, .ref a_other, .int g_step, .int g_coverMany, .ref a_grid, .ref a_order, .int g_leastSums, .int g_leastPart])), (a_now, .inl (cZ, 164, .inl g_now)), (a_first, .inl (cI, 41, .inl g_first)), (a_second, .inl (cI, 41, .inl g_second)), (a_sums, .inl (cZ, 241, .inl g_sums))] H := by rw [eH]; exact hP
  have hS : va_S A s.heap H locs := by rw [eH, eL]; exact hS
  suffices hG : W p l e rmX8_tight s m ([.ref a_this, .int q1, .int q2] : List Value).toArray below meth c H locs 0 0 (MQ below (cQi D r0 A [(a_this, .inr (8, [.int g_length, .ref a_text, .ref a_now, .ref a_before, .int g_undoMany, .ref a_read, .int g_spot, .ref a_first, .ref a_second, .ref a_sums, .ref a_other, .int g_step, .int g_coverMany, .ref a_grid, .ref a_order, .int g_leastSums, .int g_leastPart])), (a_now, .inl (cZ, 164, .inl g_now)), (a_first, .inl (cI, 41, .inl v_first)), (a_second, .inl (cI, 41, .inl v_second)), (a_sums, .inl (cZ, 241, .inl v_sums))]) ([.ref a_this, .int q1, .int q2] : List Value).toArray s 0 0 A) (F0 m 0 ls []) by rw [eH, eL] at hG; exact hG
  refine lv_aload_n hx hb dX8_tight_0 rfl (lv_at hl 0 rfl) ?_
  refine lv_iload_n hx hb dX8_tight_1 rfl (lv_at hl 1 rfl) ?_
  refine lv_iload_n hx hb dX8_tight_2 rfl (lv_at hl 2 rfl) ?_
  obtain ⟨u1, hu1, hf⟩ := bd_some hf
  refine caVI (rest := []) (As := [.int q1, .int q2]) (wr := [(a_first, .inl (cI, 41, .inl g_first)), (a_second, .inl (cI, 41, .inl g_second)), (a_sums, .inl (cZ, 241, .inl g_sums))]) (wo := [(a_this, .inr (8, [.int g_length, .ref a_text, .ref a_now, .ref a_before, .int g_undoMany, .ref a_read, .int g_spot, .ref a_first, .ref a_second, .ref a_sums, .ref a_other, .int g_step, .int g_coverMany, .ref a_grid, .ref a_order, .int g_leastSums, .int g_leastPart])), (a_now, .inl (cZ, 164, .inl g_now)), (a_first, .inl (cI, 41, .inl g_first)), (a_second, .inl (cI, 41, .inl g_second)), (a_sums, .inl (cZ, 241, .inl g_sums))]) ⟨hx, hb, hml, hown, hts⟩ hN hP hD hS hA (cX8_floor_ct l D cI cL cC cZ a_this a_text a_now a_before a_read a_first a_second a_sums a_other a_grid a_order g_length g_undoMany g_spot g_step g_coverMany g_leastSums g_leastPart g_now q1 q2 u1 hu1) z1 0 8 rfl rfl [0, 1] [2, 3, 4] [3, 4, 0, 1, 2] rfl (by decide) rfl (by decide) (by decide) rfl (by decide) rfl hl.1 rfl (Nat.le_of_ble_eq_true rfl) dX8_tight_3 ⟨Nat.zero_le _, Nat.zero_le _⟩ (fun H locs hP hD hS => ?_)
  refine lv_istore_n (lv' := [(3, .int u1), (0, .ref a_this), (1, .int q1), (2, .int q2)]) hx hb dX8_tight_6 rfl hl (by decide) rfl (fun ls hl => ?_)
  refine lv_iload_n hx hb dX8_tight_7 rfl (lv_at hl 0 rfl) ?_
  refine lv_if_ge (tgt := 13) hx hb dX8_tight_8 (by decide) (fun c2 => ?_) (fun c2 => ?_)
  · have hf := br_pos c2 hf
    refine lv_aload_n hx hb dX8_tight_13 rfl (lv_at hl 1 rfl) ?_
    refine lv_iload_n hx hb dX8_tight_14 rfl (lv_at hl 2 rfl) ?_
    obtain ⟨u3, hu3, hf⟩ := bd_some hf
    refine caVI (rest := []) (As := [.int q1]) (wr := [(a_first, .inl (cI, 41, .inl g_first)), (a_second, .inl (cI, 41, .inl g_second)), (a_sums, .inl (cZ, 241, .inl g_sums))]) (wo := [(a_this, .inr (8, [.int g_length, .ref a_text, .ref a_now, .ref a_before, .int g_undoMany, .ref a_read, .int g_spot, .ref a_first, .ref a_second, .ref a_sums, .ref a_other, .int g_step, .int g_coverMany, .ref a_grid, .ref a_order, .int g_leastSums, .int g_leastPart])), (a_now, .inl (cZ, 164, .inl g_now)), (a_first, .inl (cI, 41, .inl g_first)), (a_second, .inl (cI, 41, .inl g_second)), (a_sums, .inl (cZ, 241, .inl g_sums))]) ⟨hx, hb, hml, hown, hts⟩ hN hP hD hS hA (cX8_manyOf_ct l D cI cL cC cZ a_this a_text a_now a_before a_read a_first a_second a_sums a_other a_grid a_order g_length g_undoMany g_spot g_step g_coverMany g_leastSums g_leastPart g_now q1 u3 hu3) z2 0 8 rfl rfl [0, 1] [2, 3, 4] [3, 4, 0, 1, 2] rfl (by decide) rfl (by decide) (by decide) rfl (by decide) rfl hl.1 rfl (Nat.le_of_ble_eq_true rfl) dX8_tight_15 ⟨Nat.zero_le _, Nat.zero_le _⟩ (fun H locs hP hD hS => ?_)
    refine lv_iconst (v := 1) hx hb dX8_tight_18 (by decide) ?_
    refine lv_icmp_le (tgt := 46) hx hb dX8_tight_19 (by decide) (fun c4 => ?_) (fun c4 => ?_)
    · have hf := br_pos c4 hf
      exact w46 g_now g_first g_second g_sums H locs ls hf hP hD hS (lv_sub hl [] rfl)
    · have hf := br_neg c4 hf
      refine lv_aload_n hx hb dX8_tight_22 rfl (lv_at hl 1 rfl) ?_
      refine lv_iload_n hx hb dX8_tight_23 rfl (lv_at hl 3 rfl) ?_
      obtain ⟨u5, hu5, hf⟩ := bd_some hf
      refine caVI (rest := []) (As := [.int q2]) (wr := [(a_first, .inl (cI, 41, .inl g_first)), (a_second, .inl (cI, 41, .inl g_second)), (a_sums, .inl (cZ, 241, .inl g_sums))]) (wo := [(a_this, .inr (8, [.int g_length, .ref a_text, .ref a_now, .ref a_before, .int g_undoMany, .ref a_read, .int g_spot, .ref a_first, .ref a_second, .ref a_sums, .ref a_other, .int g_step, .int g_coverMany, .ref a_grid, .ref a_order, .int g_leastSums, .int g_leastPart])), (a_now, .inl (cZ, 164, .inl g_now)), (a_first, .inl (cI, 41, .inl g_first)), (a_second, .inl (cI, 41, .inl g_second)), (a_sums, .inl (cZ, 241, .inl g_sums))]) ⟨hx, hb, hml, hown, hts⟩ hN hP hD hS hA (cX8_manyOf_ct l D cI cL cC cZ a_this a_text a_now a_before a_read a_first a_second a_sums a_other a_grid a_order g_length g_undoMany g_spot g_step g_coverMany g_leastSums g_leastPart g_now q2 u5 hu5) z2 0 8 rfl rfl [0, 1] [2, 3, 4] [3, 4, 0, 1, 2] rfl (by decide) rfl (by decide) (by decide) rfl (by decide) rfl hl.1 rfl (Nat.le_of_ble_eq_true rfl) dX8_tight_24 ⟨Nat.zero_le _, Nat.zero_le _⟩ (fun H locs hP hD hS => ?_)
      refine lv_iconst (v := 1) hx hb dX8_tight_27 (by decide) ?_
      refine lv_icmp_le (tgt := 46) hx hb dX8_tight_28 (by decide) (fun c6 => ?_) (fun c6 => ?_)
      · have hf := br_pos c6 hf
        exact w46 g_now g_first g_second g_sums H locs ls hf hP hD hS (lv_sub hl [] rfl)
      · have hf := br_neg c6 hf
        refine lv_aload_n hx hb dX8_tight_31 rfl (lv_at hl 1 rfl) ?_
        refine lv_iload_n hx hb dX8_tight_32 rfl (lv_at hl 2 rfl) ?_
        refine lv_iload_n hx hb dX8_tight_33 rfl (lv_at hl 3 rfl) ?_
        refine lv_iconst (v := 1) hx hb dX8_tight_34 (by decide) ?_
        obtain ⟨u7, hu7, hf⟩ := bd_some hf
        refine caVI (rest := []) (As := [.int q1, .int q2, .int (1 : Int32)]) (wr := []) (wo := [(a_this, .inr (8, [.int g_length, .ref a_text, .ref a_now, .ref a_before, .int g_undoMany, .ref a_read, .int g_spot, .ref a_first, .ref a_second, .ref a_sums, .ref a_other, .int g_step, .int g_coverMany, .ref a_grid, .ref a_order, .int g_leastSums, .int g_leastPart])), (a_now, .inl (cZ, 164, .inl g_now)), (a_first, .inl (cI, 41, .inl u7.2.1)), (a_second, .inl (cI, 41, .inl u7.2.2.1)), (a_sums, .inl (cZ, 241, .inl u7.2.2.2))]) ⟨hx, hb, hml, hown, hts⟩ hN hP hD hS hA (cX8_adds_ct l D cI cL cC cZ a_this a_text a_now a_before a_read a_first a_second a_sums a_other a_grid a_order g_length g_undoMany g_spot g_step g_coverMany g_leastSums g_leastPart g_now g_first g_second g_sums q1 q2 (1 : Int32) u7.1 u7.2.1 u7.2.2.1 u7.2.2.2 hu7) z3 0 8 rfl rfl [0, 1, 2, 3, 4] [] [0, 1, 2, 3, 4] rfl (by decide) rfl (by decide) (by decide) rfl (by decide) rfl hl.1 rfl (Nat.le_of_ble_eq_true rfl) dX8_tight_35 ⟨Nat.zero_le _, Nat.zero_le _⟩ (fun H locs hP hD hS => ?_)
        refine lv_iload_n hx hb dX8_tight_38 rfl (lv_at hl 0 rfl) ?_
        refine lv_icmp_ne (tgt := 46) hx hb dX8_tight_39 (by decide) (fun c8 => ?_) (fun c8 => ?_)
        · have hf := br_neg c8 hf
          exact w46 g_now u7.2.1 u7.2.2.1 u7.2.2.2 H locs ls hf hP hD hS (lv_sub hl [] rfl)
        · have hf := br_pos c8 hf
          refine lv_iconst (v := 1) hx hb dX8_tight_42 (by decide) ?_
          refine lv_goto (tgt := 47) hx hb dX8_tight_43 (by decide) ?_
          have hE : ((1 : Int32), u7.2.1, u7.2.2.1, u7.2.2.2) = (r0, v_first, v_second, v_sums) := Option.some.inj hf
          simp only [Prod.mk.injEq] at hE
          obtain ⟨rfl, rfl, rfl, rfl⟩ := hE
          exact rtI hx hb hr hlk hP hD hS dX8_tight_47
  · have hf := br_neg c2 hf
    refine lv_iload_n hx hb dX8_tight_11 rfl (lv_at hl 0 rfl) ?_
    have hE : (u1, g_first, g_second, g_sums) = (r0, v_first, v_second, v_sums) := Option.some.inj hf
    simp only [Prod.mk.injEq] at hE
    obtain ⟨rfl, rfl, rfl, rfl⟩ := hE
    exact rtI hx hb hr hlk hP hD hS dX8_tight_12
abbrev rmX8_room : Room := { frames := 2, cells := 0, slots := 0, locals := 51 }
noncomputable def fX8_room (q1 : Int32) (g_step : Int32) (g_coverMany : Int32) (g_now : Nat → Int32) (g_first : Nat → Int32) (g_second : Nat → Int32) (g_sums : Nat → Int32) : Option (Int32 × Int32 × Int32 × (Nat → Int32) × (Nat → Int32) × (Nat → Int32)) := bd (fX8_isSlot q1) (fun u1 => br (u1 = 0) (some (((-1 : Int32), g_step, g_coverMany, g_first, g_second, g_sums))) (bd (fX8_adds q1 q1 (1 : Int32) g_now g_first g_second g_sums) (fun u3 => bd (fX8_lists q1 41 g_now u3.2.1) (fun u4 => br (u4.1 < (3 : Int32)) (some (((-4 : Int32), g_step, g_coverMany, u4.2, u3.2.2.1, u3.2.2.2))) (br (u3.1 ≤ (((3 : Int32) * u4.1) - (4 : Int32))) (bd (fX8_findCover u4.1 g_step g_coverMany u4.2) (fun u7 => some ((((u3.1 - u4.1) + (1 : Int32)) - u7.2, u7.1, u7.2, u4.2, u3.2.2.1, u3.2.2.2)))) (some (((-4 : Int32), g_step, g_coverMany, u4.2, u3.2.2.1, u3.2.2.2))))))))
set_option maxHeartbeats 4000000 in
set_option maxRecDepth 100000 in
theorem cX8_room_ct (l : Launch) (D : va_G) (cI cL cC cZ : ClassId) (a_this a_text a_now a_before a_read a_first a_second a_sums a_other a_grid a_order : Nat) (g_length : Int32) (g_undoMany : Int32) (g_spot : Int32) (g_step : Int32) (g_coverMany : Int32) (g_leastSums : Int32) (g_leastPart : Int32) (g_now : Nat → Int32) (g_first : Nat → Int32) (g_second : Nat → Int32) (g_sums : Nat → Int32) (q1 : Int32) (r0 : Int32) (v_step : Int32) (v_coverMany : Int32) (v_first : Nat → Int32) (v_second : Nat → Int32) (v_sums : Nat → Int32) (hf : fX8_room q1 g_step g_coverMany g_now g_first g_second g_sums = some ((r0, v_step, v_coverMany, v_first, v_second, v_sums))) : CtI l yX8_room wsX8_room rmX8_room D (tyz cI cL cC cZ) [.ref a_this, .int q1] [(a_this, .inr (8, [.int g_length, .ref a_text, .ref a_now, .ref a_before, .int g_undoMany, .ref a_read, .int g_spot, .ref a_first, .ref a_second, .ref a_sums, .ref a_other, .int g_step, .int g_coverMany, .ref a_grid, .ref a_order, .int g_leastSums, .int g_leastPart])), (a_now, .inl (cZ, 164, .inl g_now)), (a_first, .inl (cI, 41, .inl g_first)), (a_second, .inl (cI, 41, .inl g_second)), (a_sums, .inl (cZ, 241, .inl g_sums))] [(a_this, .inr (8, [.int g_length, .ref a_text, .ref a_now, .ref a_before, .int g_undoMany, .ref a_read, .int g_spot, .ref a_first, .ref a_second, .ref a_sums, .ref a_other, .int v_step, .int v_coverMany, .ref a_grid, .ref a_order, .int g_leastSums, .int g_leastPart])), (a_now, .inl (cZ, 164, .inl g_now)), (a_first, .inl (cI, 41, .inl v_first)), (a_second, .inl (cI, 41, .inl v_second)), (a_sums, .inl (cZ, 241, .inl v_sums))] r0 := by
  refine CtI.make (cc := cX8_room) (maxL := 4) (ty := .int) (by decide) rfl (Nat.le_of_ble_eq_true rfl) ?_
  intro p e s m below meth c A ls C0 hN hA hP hD hl
  obtain ⟨hx, hb, hr, hml, hown, hts, hlk⟩ := id C0
  have hown : s.vm.findClass RX8 = some m.cls := hown
  have hS : va_S A s.heap s.heap [] := va_S.rf
  have hP : va_P D vwCl [(a_this, .inr (8, [.int g_length, .ref a_text, .ref a_now, .ref a_before, .int g_undoMany, .ref a_read, .int g_spot, .ref a_first, .ref a_second, .ref a_sums, .ref a_other, .int g_step, .int g_coverMany, .ref a_grid, .ref a_order, .int g_leastSums, .int g_leastPart])), (a_now, .inl (cZ, 164, .inl g_now)), (a_first, .inl (cI, 41, .inl g_first)), (a_second, .inl (cI, 41, .inl g_second)), (a_sums, .inl (cZ, 241, .inl g_sums))] s.heap := hP
  have hD : va_D A [(a_this, .inr (8, [.int g_length, .ref a_text, .ref a_now, .ref a_before, .int g_undoMany, .ref a_read, .int g_spot, .ref a_first, .ref a_second, .ref a_sums, .ref a_other, .int g_step, .int g_coverMany, .ref a_grid, .ref a_order, .int g_leastSums, .int g_leastPart])), (a_now, .inl (cZ, 164, .inl g_now)), (a_first, .inl (cI, 41, .inl g_first)), (a_second, .inl (cI, 41, .inl g_second)), (a_sums, .inl (cZ, 241, .inl g_sums))] := hD
  have hl : lv_has ls 4 [(0, .ref a_this), (1, .int q1)] := hl
  have z1 := va_cwS (R := rmX8_room) (rm := rmX8_isSlot) (mc := 0) (ms := 0) 1 hts gX8_room_X8_isSlot rfl rfl rfl (by decide +kernel) ⟨Nat.le_of_ble_eq_true rfl, Nat.le_of_ble_eq_true rfl⟩
  have z2 := cwV (R := rmX8_room) (rm := rmX8_adds) (mc := 0) (ms := 0) 3 hts gX8_room_X8_adds rfl rfl rfl (by decide +kernel) ⟨Nat.le_of_ble_eq_true rfl, Nat.le_of_ble_eq_true rfl⟩
  have z3 : ∀ w ∈ u_ws RX8 TX8 17, w ∈ wsX8_room := by decide +kernel
  have z4 := hts (.fieldLink RX8 23 "LittleSumsModel" "first" "[I") (by decide +kernel)
  have z5 := cwV (R := rmX8_room) (rm := rmX8_lists) (mc := 0) (ms := 0) 2 hts gX8_room_X8_lists rfl rfl rfl (by decide +kernel) ⟨Nat.le_of_ble_eq_true rfl, Nat.le_of_ble_eq_true rfl⟩
  have z6 := cwV (R := rmX8_room) (rm := rmX8_findCover) (mc := 0) (ms := 0) 1 hts gX8_room_X8_findCover rfl rfl rfl (by decide +kernel) ⟨Nat.le_of_ble_eq_true rfl, Nat.le_of_ble_eq_true rfl⟩
  have z7 := hts (.fieldLink RX8 134 "LittleSumsModel" "coverMany" "I") (by decide +kernel)
  unfold fX8_room at hf
  obtain ⟨H, eH⟩ : ∃ z, z = s.heap := ⟨_, rfl⟩
  obtain ⟨locs, eL⟩ : ∃ z : List Loc, z = [] := ⟨_, rfl⟩
  have hP : va_P D vwCl [(a_this, .inr (8, [.int g_length, .ref a_text, .ref a_now, .ref a_before, .int g_undoMany, .ref a_read, .int g_spot, .ref a_first, .ref a_second, .ref a_sums, .ref a_other, .int g_step, .int g_coverMany, .ref a_grid, .ref a_order, .int g_leastSums, .int g_leastPart])), (a_now, .inl (cZ, 164, .inl g_now)), (a_first, .inl (cI, 41, .inl g_first)), (a_second, .inl (cI, 41, .inl g_second)), (a_sums, .inl (cZ, 241, .inl g_sums))] H := by rw [eH]; exact hP
  have hS : va_S A s.heap H locs := by rw [eH, eL]; exact hS
  suffices hG : W p l e rmX8_room s m ([.ref a_this, .int q1] : List Value).toArray below meth c H locs 0 0 (MQ below (cQi D r0 A [(a_this, .inr (8, [.int g_length, .ref a_text, .ref a_now, .ref a_before, .int g_undoMany, .ref a_read, .int g_spot, .ref a_first, .ref a_second, .ref a_sums, .ref a_other, .int v_step, .int v_coverMany, .ref a_grid, .ref a_order, .int g_leastSums, .int g_leastPart])), (a_now, .inl (cZ, 164, .inl g_now)), (a_first, .inl (cI, 41, .inl v_first)), (a_second, .inl (cI, 41, .inl v_second)), (a_sums, .inl (cZ, 241, .inl v_sums))]) ([.ref a_this, .int q1] : List Value).toArray s 0 0 A) (F0 m 0 ls []) by rw [eH, eL] at hG; exact hG
  refine lv_iload_n hx hb dX8_room_0 rfl (lv_at hl 1 rfl) ?_
  obtain ⟨u1, hu1, hf⟩ := bd_some hf
  refine caSI (rest := []) (As := [.int q1]) (wr := [(a_this, .inr (8, [.int g_length, .ref a_text, .ref a_now, .ref a_before, .int g_undoMany, .ref a_read, .int g_spot, .ref a_first, .ref a_second, .ref a_sums, .ref a_other, .int g_step, .int g_coverMany, .ref a_grid, .ref a_order, .int g_leastSums, .int g_leastPart])), (a_now, .inl (cZ, 164, .inl g_now)), (a_first, .inl (cI, 41, .inl g_first)), (a_second, .inl (cI, 41, .inl g_second)), (a_sums, .inl (cZ, 241, .inl g_sums))]) (wo := [(a_this, .inr (8, [.int g_length, .ref a_text, .ref a_now, .ref a_before, .int g_undoMany, .ref a_read, .int g_spot, .ref a_first, .ref a_second, .ref a_sums, .ref a_other, .int g_step, .int g_coverMany, .ref a_grid, .ref a_order, .int g_leastSums, .int g_leastPart])), (a_now, .inl (cZ, 164, .inl g_now)), (a_first, .inl (cI, 41, .inl g_first)), (a_second, .inl (cI, 41, .inl g_second)), (a_sums, .inl (cZ, 241, .inl g_sums))]) ⟨hx, hb, hml, hown, hts⟩ hN hP hD hS hA (cX8_isSlot_ct l D cI cL cC cZ q1 u1 hu1) z1 [] [0, 1, 2, 3, 4] [0, 1, 2, 3, 4] rfl (by decide) rfl (by decide) (by decide) rfl (by decide) rfl hl.1 rfl (Nat.le_of_ble_eq_true rfl) dX8_room_1 ⟨Nat.zero_le _, Nat.zero_le _⟩ (fun H locs hP hD hS => ?_)
  refine lv_if_ne (tgt := 9) hx hb dX8_room_4 (by decide) (fun c2 => ?_) (fun c2 => ?_)
  · have hf := br_neg c2 hf
    refine lv_aload_n hx hb dX8_room_9 rfl (lv_at hl 0 rfl) ?_
    refine lv_iload_n hx hb dX8_room_10 rfl (lv_at hl 1 rfl) ?_
    refine lv_iload_n hx hb dX8_room_11 rfl (lv_at hl 1 rfl) ?_
    refine lv_iconst (v := 1) hx hb dX8_room_12 (by decide) ?_
    obtain ⟨u3, hu3, hf⟩ := bd_some hf
    refine caVI (rest := []) (As := [.int q1, .int q1, .int (1 : Int32)]) (wr := []) (wo := [(a_this, .inr (8, [.int g_length, .ref a_text, .ref a_now, .ref a_before, .int g_undoMany, .ref a_read, .int g_spot, .ref a_first, .ref a_second, .ref a_sums, .ref a_other, .int g_step, .int g_coverMany, .ref a_grid, .ref a_order, .int g_leastSums, .int g_leastPart])), (a_now, .inl (cZ, 164, .inl g_now)), (a_first, .inl (cI, 41, .inl u3.2.1)), (a_second, .inl (cI, 41, .inl u3.2.2.1)), (a_sums, .inl (cZ, 241, .inl u3.2.2.2))]) ⟨hx, hb, hml, hown, hts⟩ hN hP hD hS hA (cX8_adds_ct l D cI cL cC cZ a_this a_text a_now a_before a_read a_first a_second a_sums a_other a_grid a_order g_length g_undoMany g_spot g_step g_coverMany g_leastSums g_leastPart g_now g_first g_second g_sums q1 q1 (1 : Int32) u3.1 u3.2.1 u3.2.2.1 u3.2.2.2 hu3) z2 0 8 rfl rfl [0, 1, 2, 3, 4] [] [0, 1, 2, 3, 4] rfl (by decide) rfl (by decide) (by decide) rfl (by decide) rfl hl.1 rfl (Nat.le_of_ble_eq_true rfl) dX8_room_13 ⟨Nat.zero_le _, Nat.zero_le _⟩ (fun H locs hP hD hS => ?_)
    refine lv_istore_n (lv' := [(2, .int u3.1), (0, .ref a_this), (1, .int q1)]) hx hb dX8_room_16 rfl hl (by decide) rfl (fun ls hl => ?_)
    refine lv_aload_n hx hb dX8_room_17 rfl (lv_at hl 1 rfl) ?_
    refine lv_iload_n hx hb dX8_room_18 rfl (lv_at hl 2 rfl) ?_
    refine lv_aload_n hx hb dX8_room_19 rfl (lv_at hl 1 rfl) ?_
    refine va_get (D := D) (ci := 8) (v := .ref a_first) (C := RX8) (T := TX8) (N := 17) hx hb hts z3 hown hN.1 hP 0 rfl rfl 7 (by decide) z4 (fun _ h9 => h9) rfl dX8_room_20 ?_
    obtain ⟨u4, hu4, hf⟩ := bd_some hf
    refine caVI (rest := []) (As := [.int q1, .ref a_first]) (wr := [(a_second, .inl (cI, 41, .inl u3.2.2.1)), (a_sums, .inl (cZ, 241, .inl u3.2.2.2))]) (wo := [(a_this, .inr (8, [.int g_length, .ref a_text, .ref a_now, .ref a_before, .int g_undoMany, .ref a_read, .int g_spot, .ref a_first, .ref a_second, .ref a_sums, .ref a_other, .int g_step, .int g_coverMany, .ref a_grid, .ref a_order, .int g_leastSums, .int g_leastPart])), (a_now, .inl (cZ, 164, .inl g_now)), (a_first, .inl (cI, 41, .inl u4.2)), (a_second, .inl (cI, 41, .inl u3.2.2.1)), (a_sums, .inl (cZ, 241, .inl u3.2.2.2))]) ⟨hx, hb, hml, hown, hts⟩ hN hP hD hS hA (cX8_lists_ct l D cI cL cC cZ a_this a_first a_text a_now a_before a_read a_first a_second a_sums a_other a_grid a_order 41 g_length g_undoMany g_spot g_step g_coverMany g_leastSums g_leastPart g_now u3.2.1 q1 u4.1 u4.2 hu4) z5 0 8 rfl rfl [0, 1, 2] [3, 4] [2, 3, 4, 0, 1] rfl (by decide) rfl (by decide) (by decide) rfl (by decide) rfl hl.1 rfl (Nat.le_of_ble_eq_true rfl) dX8_room_23 ⟨Nat.zero_le _, Nat.zero_le _⟩ (fun H locs hP hD hS => ?_)
    refine lv_istore_n (lv' := [(3, .int u4.1), (2, .int u3.1), (0, .ref a_this), (1, .int q1)]) hx hb dX8_room_26 rfl hl (by decide) rfl (fun ls hl => ?_)
    refine lv_iload_n hx hb dX8_room_27 rfl (lv_at hl 0 rfl) ?_
    refine lv_iconst (v := 3) hx hb dX8_room_28 (by decide) ?_
    refine lv_icmp_lt (tgt := 41) hx hb dX8_room_29 (by decide) (fun c5 => ?_) (fun c5 => ?_)
    · have hf := br_pos c5 hf
      refine lv_bipush (v := -4) hx hb dX8_room_41 (by decide) ?_
      have hE : ((-4 : Int32), g_step, g_coverMany, u4.2, u3.2.2.1, u3.2.2.2) = (r0, v_step, v_coverMany, v_first, v_second, v_sums) := Option.some.inj hf
      simp only [Prod.mk.injEq] at hE
      obtain ⟨rfl, rfl, rfl, rfl, rfl, rfl⟩ := hE
      exact rtI hx hb hr hlk hP hD hS dX8_room_43
    · have hf := br_neg c5 hf
      refine lv_iload_n hx hb dX8_room_32 rfl (lv_at hl 1 rfl) ?_
      refine lv_iconst (v := 3) hx hb dX8_room_33 (by decide) ?_
      refine lv_iload_n hx hb dX8_room_34 rfl (lv_at hl 0 rfl) ?_
      refine lv_imul hx hb dX8_room_35 ?_
      refine lv_iconst (v := 4) hx hb dX8_room_36 (by decide) ?_
      refine lv_isub hx hb dX8_room_37 ?_
      refine lv_icmp_le (tgt := 44) hx hb dX8_room_38 (by decide) (fun c6 => ?_) (fun c6 => ?_)
      · have hf := br_pos c6 hf
        refine lv_aload_n hx hb dX8_room_44 rfl (lv_at hl 2 rfl) ?_
        refine lv_iload_n hx hb dX8_room_45 rfl (lv_at hl 0 rfl) ?_
        obtain ⟨u7, hu7, hf⟩ := bd_some hf
        refine caVV (rest := []) (As := [.int u4.1]) (wr := [(a_now, .inl (cZ, 164, .inl g_now)), (a_second, .inl (cI, 41, .inl u3.2.2.1)), (a_sums, .inl (cZ, 241, .inl u3.2.2.2))]) (wo := [(a_this, .inr (8, [.int g_length, .ref a_text, .ref a_now, .ref a_before, .int g_undoMany, .ref a_read, .int g_spot, .ref a_first, .ref a_second, .ref a_sums, .ref a_other, .int u7.1, .int u7.2, .ref a_grid, .ref a_order, .int g_leastSums, .int g_leastPart])), (a_now, .inl (cZ, 164, .inl g_now)), (a_first, .inl (cI, 41, .inl u4.2)), (a_second, .inl (cI, 41, .inl u3.2.2.1)), (a_sums, .inl (cZ, 241, .inl u3.2.2.2))]) ⟨hx, hb, hml, hown, hts⟩ hN hP hD hS hA (cX8_findCover_ct l D cI cL cC cZ a_this a_text a_now a_before a_read a_first a_second a_sums a_other a_grid a_order g_length g_undoMany g_spot g_step g_coverMany g_leastSums g_leastPart u4.2 u4.1 u7.1 u7.2 hu7) z6 0 8 rfl rfl [0, 2] [1, 3, 4] [3, 0, 4, 1, 2] rfl (by decide) rfl (by decide) (by decide) rfl (by decide) rfl hl.1 rfl (Nat.le_of_ble_eq_true rfl) dX8_room_46 ⟨Nat.zero_le _, Nat.zero_le _⟩ (fun H locs hP hD hS => ?_)
        refine lv_iload_n hx hb dX8_room_49 rfl (lv_at hl 1 rfl) ?_
        refine lv_iload_n hx hb dX8_room_50 rfl (lv_at hl 0 rfl) ?_
        refine lv_isub hx hb dX8_room_51 ?_
        refine lv_iconst (v := 1) hx hb dX8_room_52 (by decide) ?_
        refine lv_iadd hx hb dX8_room_53 ?_
        refine lv_aload_n hx hb dX8_room_54 rfl (lv_at hl 2 rfl) ?_
        refine va_get (D := D) (ci := 8) (v := .int u7.2) (C := RX8) (T := TX8) (N := 17) hx hb hts z3 hown hN.1 hP 0 rfl rfl 12 (by decide) z7 (fun _ h9 => h9) rfl dX8_room_55 ?_
        refine lv_isub hx hb dX8_room_58 ?_
        have hE : (((u3.1 - u4.1) + (1 : Int32)) - u7.2, u7.1, u7.2, u4.2, u3.2.2.1, u3.2.2.2) = (r0, v_step, v_coverMany, v_first, v_second, v_sums) := Option.some.inj hf
        simp only [Prod.mk.injEq] at hE
        obtain ⟨rfl, rfl, rfl, rfl, rfl, rfl⟩ := hE
        exact rtI hx hb hr hlk hP hD hS dX8_room_59
      · have hf := br_neg c6 hf
        refine lv_bipush (v := -4) hx hb dX8_room_41 (by decide) ?_
        have hE : ((-4 : Int32), g_step, g_coverMany, u4.2, u3.2.2.1, u3.2.2.2) = (r0, v_step, v_coverMany, v_first, v_second, v_sums) := Option.some.inj hf
        simp only [Prod.mk.injEq] at hE
        obtain ⟨rfl, rfl, rfl, rfl, rfl, rfl⟩ := hE
        exact rtI hx hb hr hlk hP hD hS dX8_room_43
  · have hf := br_pos c2 hf
    refine lv_iconst (v := -1) hx hb dX8_room_7 (by decide) ?_
    have hE : ((-1 : Int32), g_step, g_coverMany, g_first, g_second, g_sums) = (r0, v_step, v_coverMany, v_first, v_second, v_sums) := Option.some.inj hf
    simp only [Prod.mk.injEq] at hE
    obtain ⟨rfl, rfl, rfl, rfl, rfl, rfl⟩ := hE
    exact rtI hx hb hr hlk hP hD hS dX8_room_8
abbrev rmX8_ownSums : Room := { frames := 0, cells := 0, slots := 0, locals := 0 }
noncomputable def bX8_ownSums_128 (x1 : Int32) (x2 : Int32) (x3 : Int32) (x4 : Int32) (x5 : Int32) (k1 : Int32) (k2 : Int32) (g_sums : Nat → Int32) : Option ((Int32 × Int32 × (Nat → Int32)) ⊕ ((Int32 × Int32 × (Nat → Int32)) ⊕ (Int32 × (Nat → Int32)))) := gd (¬ k1 < 0 ∧ k1.toNatClampNeg < 241) (lt_ (upd g_sums k1.toNatClampNeg (vp_nar .boolean k2)) (fun y2 => lt_ (x5 + (1 : Int32)) (fun y3 => some (Sum.inl ((x3, y3, y2))))))
noncomputable def bX8_ownSums_123 (x1 : Int32) (x2 : Int32) (x3 : Int32) (x4 : Int32) (x5 : Int32) (k1 : Int32) (g_sums : Nat → Int32) : Option ((Int32 × Int32 × (Nat → Int32)) ⊕ ((Int32 × Int32 × (Nat → Int32)) ⊕ (Int32 × (Nat → Int32)))) := bX8_ownSums_128 x1 x2 x3 x4 x5 k1 (1 : Int32) g_sums
noncomputable def bX8_ownSums_94 (x1 : Int32) (x2 : Int32) (x4 : Int32) (x5 : Int32) (x6 : Int32) (k0 : Int32) (k1 : Int32) (g_sums : Nat → Int32) : Option ((Int32 × Int32 × (Nat → Int32)) ⊕ ((Int32 × Int32 × (Nat → Int32)) ⊕ (Int32 × (Nat → Int32)))) := lt_ (k0 + k1) (fun y4 => gd (¬ (x4 + x5) < 0 ∧ (x4 + x5).toNatClampNeg < 241) (br ((g_sums (x4 + x5).toNatClampNeg) = 0) (br (x6 = 0) (bX8_ownSums_128 x1 x2 y4 x4 x5 (x4 + x5) (0 : Int32) g_sums) (bX8_ownSums_123 x1 x2 y4 x4 x5 (x4 + x5) g_sums)) (bX8_ownSums_123 x1 x2 y4 x4 x5 (x4 + x5) g_sums)))
noncomputable def bX8_ownSums_81 (x1 : Int32) (x2 : Int32) (x3 : Int32) (x4 : Int32) (x5 : Int32) (k0 : Int32) (g_sums : Nat → Int32) : Option ((Int32 × Int32 × (Nat → Int32)) ⊕ ((Int32 × Int32 × (Nat → Int32)) ⊕ (Int32 × (Nat → Int32)))) := br (k0 = 0) (bX8_ownSums_94 x1 x2 x4 x5 k0 x3 (0 : Int32) g_sums) (bX8_ownSums_94 x1 x2 x4 x5 k0 x3 (1 : Int32) g_sums)
noncomputable def bX8_ownSums_80 (x1 : Int32) (x2 : Int32) (x3 : Int32) (x4 : Int32) (x5 : Int32) (g_sums : Nat → Int32) : Option ((Int32 × Int32 × (Nat → Int32)) ⊕ ((Int32 × Int32 × (Nat → Int32)) ⊕ (Int32 × (Nat → Int32)))) := bX8_ownSums_81 x1 x2 x3 x4 x5 (0 : Int32) g_sums
noncomputable def bX8_ownSums_36 (x1 : Int32) (x2 : Int32) (x4 : Int32) (x3 : Int32) (x5 : Int32) (g_sums : Nat → Int32) : Option ((Int32 × Int32 × (Nat → Int32)) ⊕ ((Int32 × Int32 × (Nat → Int32)) ⊕ (Int32 × (Nat → Int32)))) := br (x4 < x5) (lt_ (x4 + (1 : Int32)) (fun y10 => some (Sum.inr (Sum.inl ((x3, y10, g_sums)))))) (br (((x1 >>> (x4 &&& 31)) &&& (1 : Int32)) = (1 : Int32)) (br (((x1 >>> (x5 &&& 31)) &&& (1 : Int32)) = (1 : Int32)) (gd (¬ (x4 + x5) < 0 ∧ (x4 + x5).toNatClampNeg < 241) (br ((g_sums (x4 + x5).toNatClampNeg) = 0) (bX8_ownSums_81 x1 x2 x3 x4 x5 (1 : Int32) g_sums) (bX8_ownSums_80 x1 x2 x3 x4 x5 g_sums))) (bX8_ownSums_80 x1 x2 x3 x4 x5 g_sums)) (bX8_ownSums_80 x1 x2 x3 x4 x5 g_sums))
noncomputable def sX8_ownSums_36 (x1 : Int32) (x2 : Int32) (x4 : Int32) : (Int32 × Int32 × (Nat → Int32)) → Option ((Int32 × Int32 × (Nat → Int32)) ⊕ ((Int32 × Int32 × (Nat → Int32)) ⊕ (Int32 × (Nat → Int32)))) := fun q => bX8_ownSums_36 x1 x2 x4 q.1 q.2.1 q.2.2
noncomputable def bX8_ownSums_27 (x1 : Int32) (x2 : Int32) (x3 : Int32) (x4 : Int32) (g_sums : Nat → Int32) : Option ((Int32 × Int32 × (Nat → Int32)) ⊕ (Int32 × (Nat → Int32))) := br (x2 < x4) (some (Sum.inr ((x3, g_sums)))) (run (sX8_ownSums_36 x1 x2 x4) ((x3, (0 : Int32), g_sums)))
noncomputable def sX8_ownSums_27 (x1 : Int32) (x2 : Int32) : (Int32 × Int32 × (Nat → Int32)) → Option ((Int32 × Int32 × (Nat → Int32)) ⊕ (Int32 × (Nat → Int32))) := fun q => bX8_ownSums_27 x1 x2 q.1 q.2.1 q.2.2
noncomputable def bX8_ownSums_2 (x1 : Int32) (x2 : Int32) (x3 : Int32) (g_sums : Nat → Int32) : Option ((Int32 × (Nat → Int32)) ⊕ (Int32 × (Nat → Int32))) := br (((2 : Int32) * x2) < x3) (ml (run (sX8_ownSums_27 x1 x2) (((0 : Int32), (0 : Int32), g_sums)))) (gd (¬ x3 < 0 ∧ x3.toNatClampNeg < 241) (lt_ (upd g_sums x3.toNatClampNeg (vp_nar .boolean (0 : Int32))) (fun y19 => lt_ (x3 + (1 : Int32)) (fun y20 => some (Sum.inl ((y20, y19)))))))
noncomputable def sX8_ownSums_2 (x1 : Int32) (x2 : Int32) : (Int32 × (Nat → Int32)) → Option ((Int32 × (Nat → Int32)) ⊕ (Int32 × (Nat → Int32))) := fun q => bX8_ownSums_2 x1 x2 q.1 q.2
noncomputable def fX8_ownSums (q1 : Int32) (q2 : Int32) (g_sums : Nat → Int32) : Option (Int32 × (Nat → Int32)) := run (sX8_ownSums_2 q1 q2) (((0 : Int32), g_sums))
set_option maxHeartbeats 4000000 in
set_option maxRecDepth 100000 in
theorem cX8_ownSums_ct (l : Launch) (D : va_G) (cI cL cC cZ : ClassId) (a_this a_text a_now a_before a_read a_first a_second a_sums a_other a_grid a_order : Nat) (g_length : Int32) (g_undoMany : Int32) (g_spot : Int32) (g_step : Int32) (g_coverMany : Int32) (g_leastSums : Int32) (g_leastPart : Int32) (g_sums : Nat → Int32) (q1 : Int32) (q2 : Int32) (r0 : Int32) (v_sums : Nat → Int32) (hf : fX8_ownSums q1 q2 g_sums = some ((r0, v_sums))) : CtI l yX8_ownSums wsX8_ownSums rmX8_ownSums D (tyz cI cL cC cZ) [.ref a_this, .int q1, .int q2] [(a_this, .inr (8, [.int g_length, .ref a_text, .ref a_now, .ref a_before, .int g_undoMany, .ref a_read, .int g_spot, .ref a_first, .ref a_second, .ref a_sums, .ref a_other, .int g_step, .int g_coverMany, .ref a_grid, .ref a_order, .int g_leastSums, .int g_leastPart])), (a_sums, .inl (cZ, 241, .inl g_sums))] [(a_this, .inr (8, [.int g_length, .ref a_text, .ref a_now, .ref a_before, .int g_undoMany, .ref a_read, .int g_spot, .ref a_first, .ref a_second, .ref a_sums, .ref a_other, .int g_step, .int g_coverMany, .ref a_grid, .ref a_order, .int g_leastSums, .int g_leastPart])), (a_sums, .inl (cZ, 241, .inl v_sums))] r0 := by
  refine CtI.make (cc := cX8_ownSums) (maxL := 7) (ty := .int) (by decide) rfl (Nat.le_of_ble_eq_true rfl) ?_
  intro p e s m below meth c A ls C0 hN hA hP hD hl
  obtain ⟨hx, hb, hr, hml, hown, hts, hlk⟩ := id C0
  have hown : s.vm.findClass RX8 = some m.cls := hown
  have hS : va_S A s.heap s.heap [] := va_S.rf
  have hP : va_P D vwCl [(a_this, .inr (8, [.int g_length, .ref a_text, .ref a_now, .ref a_before, .int g_undoMany, .ref a_read, .int g_spot, .ref a_first, .ref a_second, .ref a_sums, .ref a_other, .int g_step, .int g_coverMany, .ref a_grid, .ref a_order, .int g_leastSums, .int g_leastPart])), (a_sums, .inl (cZ, 241, .inl g_sums))] s.heap := hP
  have hD : va_D A [(a_this, .inr (8, [.int g_length, .ref a_text, .ref a_now, .ref a_before, .int g_undoMany, .ref a_read, .int g_spot, .ref a_first, .ref a_second, .ref a_sums, .ref a_other, .int g_step, .int g_coverMany, .ref a_grid, .ref a_order, .int g_leastSums, .int g_leastPart])), (a_sums, .inl (cZ, 241, .inl g_sums))] := hD
  have hl : lv_has ls 7 [(0, .ref a_this), (1, .int q1), (2, .int q2)] := hl
  have z1 : ∀ w ∈ u_ws RX8 TX8 17, w ∈ wsX8_ownSums := by decide +kernel
  have z2 := hts (.fieldLink RX8 29 "LittleSumsModel" "sums" "[Z") (by decide +kernel)
  have w27 : ∀ (x1 : Int32) (x2 : Int32) (x3 : Int32) (x4 : Int32) (g_sums : Nat → Int32) (t : Int32 × (Nat → Int32)) (H : Heap) (locs : List Loc) (ls : Array Slot), run (sX8_ownSums_27 x1 x2) ((x3, x4, g_sums)) = some t → (fun z => z = (r0, v_sums)) t → va_P D vwCl [(a_this, .inr (8, [.int g_length, .ref a_text, .ref a_now, .ref a_before, .int g_undoMany, .ref a_read, .int g_spot, .ref a_first, .ref a_second, .ref a_sums, .ref a_other, .int g_step, .int g_coverMany, .ref a_grid, .ref a_order, .int g_leastSums, .int g_leastPart])), (a_sums, .inl (cZ, 241, .inl g_sums))] H → va_D A [(a_this, .inr (8, [.int g_length, .ref a_text, .ref a_now, .ref a_before, .int g_undoMany, .ref a_read, .int g_spot, .ref a_first, .ref a_second, .ref a_sums, .ref a_other, .int g_step, .int g_coverMany, .ref a_grid, .ref a_order, .int g_leastSums, .int g_leastPart])), (a_sums, .inl (cZ, 241, .inl g_sums))] → va_S A s.heap H locs → lv_has ls 7 [(0, .ref a_this), (1, .int x1), (2, .int x2), (3, .int x3), (4, .int x4)] → W p l e rmX8_ownSums s m ([.ref a_this, .int q1, .int q2] : List Value).toArray below meth c H locs 0 0 (MQ below (cQi D r0 A [(a_this, .inr (8, [.int g_length, .ref a_text, .ref a_now, .ref a_before, .int g_undoMany, .ref a_read, .int g_spot, .ref a_first, .ref a_second, .ref a_sums, .ref a_other, .int g_step, .int g_coverMany, .ref a_grid, .ref a_order, .int g_leastSums, .int g_leastPart])), (a_sums, .inl (cZ, 241, .inl v_sums))]) ([.ref a_this, .int q1, .int q2] : List Value).toArray s 0 0 A) (F0 m 27 ls []) := by
    intro x1 x2
    obtain ⟨F27, eF27⟩ : ∃ F : (Int32 × Int32 × (Nat → Int32)) → Prop, F = fun q => ∀ (H : Heap) (locs : List Loc) (ls : Array Slot), va_P D vwCl [(a_this, .inr (8, [.int g_length, .ref a_text, .ref a_now, .ref a_before, .int g_undoMany, .ref a_read, .int g_spot, .ref a_first, .ref a_second, .ref a_sums, .ref a_other, .int g_step, .int g_coverMany, .ref a_grid, .ref a_order, .int g_leastSums, .int g_leastPart])), (a_sums, .inl (cZ, 241, .inl q.2.2))] H → va_D A [(a_this, .inr (8, [.int g_length, .ref a_text, .ref a_now, .ref a_before, .int g_undoMany, .ref a_read, .int g_spot, .ref a_first, .ref a_second, .ref a_sums, .ref a_other, .int g_step, .int g_coverMany, .ref a_grid, .ref a_order, .int g_leastSums, .int g_leastPart])), (a_sums, .inl (cZ, 241, .inl q.2.2))] → va_S A s.heap H locs → lv_has ls 7 [(0, .ref a_this), (1, .int x1), (2, .int x2), (3, .int q.1), (4, .int q.2.1)] → W p l e rmX8_ownSums s m ([.ref a_this, .int q1, .int q2] : List Value).toArray below meth c H locs 0 0 (MQ below (cQi D r0 A [(a_this, .inr (8, [.int g_length, .ref a_text, .ref a_now, .ref a_before, .int g_undoMany, .ref a_read, .int g_spot, .ref a_first, .ref a_second, .ref a_sums, .ref a_other, .int g_step, .int g_coverMany, .ref a_grid, .ref a_order, .int g_leastSums, .int g_leastPart])), (a_sums, .inl (cZ, 241, .inl v_sums))]) ([.ref a_this, .int q1, .int q2] : List Value).toArray s 0 0 A) (F0 m 27 ls []) := ⟨_, rfl⟩
    have key : ∀ (q : Int32 × Int32 × (Nat → Int32)) (t : Int32 × (Nat → Int32)), run (sX8_ownSums_27 x1 x2) q = some t → (fun z => z = (r0, v_sums)) t → F27 q := by
      refine loop_rule (sX8_ownSums_27 x1 x2) F27 (fun z => z = (r0, v_sums)) ?_
      intro q t hf hF
      have hF : (Sum.elim F27 (fun z => z = (r0, v_sums))) t := hF
      have w36 : ∀ (x4 : Int32) (x3 : Int32) (x5 : Int32) (g_sums : Nat → Int32) (t : (Int32 × Int32 × (Nat → Int32)) ⊕ (Int32 × (Nat → Int32))) (H : Heap) (locs : List Loc) (ls : Array Slot), run (sX8_ownSums_36 x1 x2 x4) ((x3, x5, g_sums)) = some t → (Sum.elim F27 (fun z => z = (r0, v_sums))) t → va_P D vwCl [(a_this, .inr (8, [.int g_length, .ref a_text, .ref a_now, .ref a_before, .int g_undoMany, .ref a_read, .int g_spot, .ref a_first, .ref a_second, .ref a_sums, .ref a_other, .int g_step, .int g_coverMany, .ref a_grid, .ref a_order, .int g_leastSums, .int g_leastPart])), (a_sums, .inl (cZ, 241, .inl g_sums))] H → va_D A [(a_this, .inr (8, [.int g_length, .ref a_text, .ref a_now, .ref a_before, .int g_undoMany, .ref a_read, .int g_spot, .ref a_first, .ref a_second, .ref a_sums, .ref a_other, .int g_step, .int g_coverMany, .ref a_grid, .ref a_order, .int g_leastSums, .int g_leastPart])), (a_sums, .inl (cZ, 241, .inl g_sums))] → va_S A s.heap H locs → lv_has ls 7 [(0, .ref a_this), (1, .int x1), (2, .int x2), (3, .int x3), (4, .int x4), (5, .int x5)] → W p l e rmX8_ownSums s m ([.ref a_this, .int q1, .int q2] : List Value).toArray below meth c H locs 0 0 (MQ below (cQi D r0 A [(a_this, .inr (8, [.int g_length, .ref a_text, .ref a_now, .ref a_before, .int g_undoMany, .ref a_read, .int g_spot, .ref a_first, .ref a_second, .ref a_sums, .ref a_other, .int g_step, .int g_coverMany, .ref a_grid, .ref a_order, .int g_leastSums, .int g_leastPart])), (a_sums, .inl (cZ, 241, .inl v_sums))]) ([.ref a_this, .int q1, .int q2] : List Value).toArray s 0 0 A) (F0 m 36 ls []) := by
        intro x4
        obtain ⟨F36, eF36⟩ : ∃ F : (Int32 × Int32 × (Nat → Int32)) → Prop, F = fun q => ∀ (H : Heap) (locs : List Loc) (ls : Array Slot), va_P D vwCl [(a_this, .inr (8, [.int g_length, .ref a_text, .ref a_now, .ref a_before, .int g_undoMany, .ref a_read, .int g_spot, .ref a_first, .ref a_second, .ref a_sums, .ref a_other, .int g_step, .int g_coverMany, .ref a_grid, .ref a_order, .int g_leastSums, .int g_leastPart])), (a_sums, .inl (cZ, 241, .inl q.2.2))] H → va_D A [(a_this, .inr (8, [.int g_length, .ref a_text, .ref a_now, .ref a_before, .int g_undoMany, .ref a_read, .int g_spot, .ref a_first, .ref a_second, .ref a_sums, .ref a_other, .int g_step, .int g_coverMany, .ref a_grid, .ref a_order, .int g_leastSums, .int g_leastPart])), (a_sums, .inl (cZ, 241, .inl q.2.2))] → va_S A s.heap H locs → lv_has ls 7 [(0, .ref a_this), (1, .int x1), (2, .int x2), (3, .int q.1), (4, .int x4), (5, .int q.2.1)] → W p l e rmX8_ownSums s m ([.ref a_this, .int q1, .int q2] : List Value).toArray below meth c H locs 0 0 (MQ below (cQi D r0 A [(a_this, .inr (8, [.int g_length, .ref a_text, .ref a_now, .ref a_before, .int g_undoMany, .ref a_read, .int g_spot, .ref a_first, .ref a_second, .ref a_sums, .ref a_other, .int g_step, .int g_coverMany, .ref a_grid, .ref a_order, .int g_leastSums, .int g_leastPart])), (a_sums, .inl (cZ, 241, .inl v_sums))]) ([.ref a_this, .int q1, .int q2] : List Value).toArray s 0 0 A) (F0 m 36 ls []) := ⟨_, rfl⟩
        have key : ∀ (q : Int32 × Int32 × (Nat → Int32)) (t : (Int32 × Int32 × (Nat → Int32)) ⊕ (Int32 × (Nat → Int32))), run (sX8_ownSums_36 x1 x2 x4) q = some t → (Sum.elim F27 (fun z => z = (r0, v_sums))) t → F36 q := by
          refine loop_rule (sX8_ownSums_36 x1 x2 x4) F36 (Sum.elim F27 (fun z => z = (r0, v_sums))) ?_
          intro q t hf hF
          have hF : (Sum.elim F36 (Sum.elim F27 (fun z => z = (r0, v_sums)))) t := hF
          have w128 : ∀ (x3 : Int32) (x5 : Int32) (k1 : Int32) (k2 : Int32) (g_sums : Nat → Int32) (t : (Int32 × Int32 × (Nat → Int32)) ⊕ ((Int32 × Int32 × (Nat → Int32)) ⊕ (Int32 × (Nat → Int32)))) (H : Heap) (locs : List Loc) (ls : Array Slot), bX8_ownSums_128 x1 x2 x3 x4 x5 k1 k2 g_sums = some t → (Sum.elim F36 (Sum.elim F27 (fun z => z = (r0, v_sums)))) t → va_P D vwCl [(a_this, .inr (8, [.int g_length, .ref a_text, .ref a_now, .ref a_before, .int g_undoMany, .ref a_read, .int g_spot, .ref a_first, .ref a_second, .ref a_sums, .ref a_other, .int g_step, .int g_coverMany, .ref a_grid, .ref a_order, .int g_leastSums, .int g_leastPart])), (a_sums, .inl (cZ, 241, .inl g_sums))] H → va_D A [(a_this, .inr (8, [.int g_length, .ref a_text, .ref a_now, .ref a_before, .int g_undoMany, .ref a_read, .int g_spot, .ref a_first, .ref a_second, .ref a_sums, .ref a_other, .int g_step, .int g_coverMany, .ref a_grid, .ref a_order, .int g_leastSums, .int g_leastPart])), (a_sums, .inl (cZ, 241, .inl g_sums))] → va_S A s.heap H locs → lv_has ls 7 [(0, .ref a_this), (1, .int x1), (2, .int x2), (3, .int x3), (4, .int x4), (5, .int x5)] → W p l e rmX8_ownSums s m ([.ref a_this, .int q1, .int q2] : List Value).toArray below meth c H locs 0 0 (MQ below (cQi D r0 A [(a_this, .inr (8, [.int g_length, .ref a_text, .ref a_now, .ref a_before, .int g_undoMany, .ref a_read, .int g_spot, .ref a_first, .ref a_second, .ref a_sums, .ref a_other, .int g_step, .int g_coverMany, .ref a_grid, .ref a_order, .int g_leastSums, .int g_leastPart])), (a_sums, .inl (cZ, 241, .inl v_sums))]) ([.ref a_this, .int q1, .int q2] : List Value).toArray s 0 0 A) (F0 m 128 ls [.int k2, .int k1, .ref a_sums]) := by
            intro x3 x5 k1 k2 g_sums t H locs ls hf hF hP hD hS hl
            unfold bX8_ownSums_128 at hf
            obtain ⟨c1, hf⟩ := gd_some hf
            refine va_zast hx hb hN.1 hP hD hS 1 3 rfl rfl (ix_in c1) dX8_ownSums_128 (fun H locs hP hD hS => ?_)
            obtain ⟨y2, ey2⟩ : ∃ z, z = upd g_sums k1.toNatClampNeg (vp_nar .boolean k2) := ⟨_, rfl⟩
            have hf := lt_some hf y2 ey2
            have hP : va_P D vwCl [(a_this, .inr (8, [.int g_length, .ref a_text, .ref a_now, .ref a_before, .int g_undoMany, .ref a_read, .int g_spot, .ref a_first, .ref a_second, .ref a_sums, .ref a_other, .int g_step, .int g_coverMany, .ref a_grid, .ref a_order, .int g_leastSums, .int g_leastPart])), (a_sums, .inl (cZ, 241, .inl y2))] H := by rw [ey2]; exact hP
            have hD : va_D A [(a_this, .inr (8, [.int g_length, .ref a_text, .ref a_now, .ref a_before, .int g_undoMany, .ref a_read, .int g_spot, .ref a_first, .ref a_second, .ref a_sums, .ref a_other, .int g_step, .int g_coverMany, .ref a_grid, .ref a_order, .int g_leastSums, .int g_leastPart])), (a_sums, .inl (cZ, 241, .inl y2))] := by rw [ey2]; exact hD
            obtain ⟨y3, ey3⟩ : ∃ z : Int32, z = x5 + (1 : Int32) := ⟨_, rfl⟩
            have hf := lt_some hf y3 ey3
            refine lv_iinc (v := y3) (lv' := [(5, .int y3), (0, .ref a_this), (1, .int x1), (2, .int x2), (3, .int x3), (4, .int x4)]) hx hb dX8_ownSums_129 hl (k := 5) rfl (by rw [ey3]; rfl) (by decide) rfl (fun ls hl => ?_)
            refine lv_goto (tgt := 36) hx hb dX8_ownSums_132 (by decide) ?_
            cases hf
            exact ((congrFun eF36 _).mp hF) H locs ls hP hD hS (lv_sub hl [1, 2, 3, 4, 5, 0] rfl)
          have w123 : ∀ (x3 : Int32) (x5 : Int32) (k1 : Int32) (g_sums : Nat → Int32) (t : (Int32 × Int32 × (Nat → Int32)) ⊕ ((Int32 × Int32 × (Nat → Int32)) ⊕ (Int32 × (Nat → Int32)))) (H : Heap) (locs : List Loc) (ls : Array Slot), bX8_ownSums_123 x1 x2 x3 x4 x5 k1 g_sums = some t → (Sum.elim F36 (Sum.elim F27 (fun z => z = (r0, v_sums)))) t → va_P D vwCl [(a_this, .inr (8, [.int g_length, .ref a_text, .ref a_now, .ref a_before, .int g_undoMany, .ref a_read, .int g_spot, .ref a_first, .ref a_second, .ref a_sums, .ref a_other, .int g_step, .int g_coverMany, .ref a_grid, .ref a_order, .int g_leastSums, .int g_leastPart])), (a_sums, .inl (cZ, 241, .inl g_sums))] H → va_D A [(a_this, .inr (8, [.int g_length, .ref a_text, .ref a_now, .ref a_before, .int g_undoMany, .ref a_read, .int g_spot, .ref a_first, .ref a_second, .ref a_sums, .ref a_other, .int g_step, .int g_coverMany, .ref a_grid, .ref a_order, .int g_leastSums, .int g_leastPart])), (a_sums, .inl (cZ, 241, .inl g_sums))] → va_S A s.heap H locs → lv_has ls 7 [(0, .ref a_this), (1, .int x1), (2, .int x2), (3, .int x3), (4, .int x4), (5, .int x5)] → W p l e rmX8_ownSums s m ([.ref a_this, .int q1, .int q2] : List Value).toArray below meth c H locs 0 0 (MQ below (cQi D r0 A [(a_this, .inr (8, [.int g_length, .ref a_text, .ref a_now, .ref a_before, .int g_undoMany, .ref a_read, .int g_spot, .ref a_first, .ref a_second, .ref a_sums, .ref a_other, .int g_step, .int g_coverMany, .ref a_grid, .ref a_order, .int g_leastSums, .int g_leastPart])), (a_sums, .inl (cZ, 241, .inl v_sums))]) ([.ref a_this, .int q1, .int q2] : List Value).toArray s 0 0 A) (F0 m 123 ls [.int k1, .ref a_sums]) := by
            intro x3 x5 k1 g_sums t H locs ls hf hF hP hD hS hl
            unfold bX8_ownSums_123 at hf
            refine lv_iconst (v := 1) hx hb dX8_ownSums_123 (by decide) ?_
            refine lv_goto (tgt := 128) hx hb dX8_ownSums_124 (by decide) ?_
            exact w128 x3 x5 k1 (1 : Int32) g_sums _ H locs ls hf hF hP hD hS (lv_sub hl [0, 1, 2, 3, 4, 5] rfl)
          have w94 : ∀ (x5 : Int32) (x6 : Int32) (k0 : Int32) (k1 : Int32) (g_sums : Nat → Int32) (t : (Int32 × Int32 × (Nat → Int32)) ⊕ ((Int32 × Int32 × (Nat → Int32)) ⊕ (Int32 × (Nat → Int32)))) (H : Heap) (locs : List Loc) (ls : Array Slot), bX8_ownSums_94 x1 x2 x4 x5 x6 k0 k1 g_sums = some t → (Sum.elim F36 (Sum.elim F27 (fun z => z = (r0, v_sums)))) t → va_P D vwCl [(a_this, .inr (8, [.int g_length, .ref a_text, .ref a_now, .ref a_before, .int g_undoMany, .ref a_read, .int g_spot, .ref a_first, .ref a_second, .ref a_sums, .ref a_other, .int g_step, .int g_coverMany, .ref a_grid, .ref a_order, .int g_leastSums, .int g_leastPart])), (a_sums, .inl (cZ, 241, .inl g_sums))] H → va_D A [(a_this, .inr (8, [.int g_length, .ref a_text, .ref a_now, .ref a_before, .int g_undoMany, .ref a_read, .int g_spot, .ref a_first, .ref a_second, .ref a_sums, .ref a_other, .int g_step, .int g_coverMany, .ref a_grid, .ref a_order, .int g_leastSums, .int g_leastPart])), (a_sums, .inl (cZ, 241, .inl g_sums))] → va_S A s.heap H locs → lv_has ls 7 [(0, .ref a_this), (1, .int x1), (2, .int x2), (4, .int x4), (5, .int x5), (6, .int x6)] → W p l e rmX8_ownSums s m ([.ref a_this, .int q1, .int q2] : List Value).toArray below meth c H locs 0 0 (MQ below (cQi D r0 A [(a_this, .inr (8, [.int g_length, .ref a_text, .ref a_now, .ref a_before, .int g_undoMany, .ref a_read, .int g_spot, .ref a_first, .ref a_second, .ref a_sums, .ref a_other, .int g_step, .int g_coverMany, .ref a_grid, .ref a_order, .int g_leastSums, .int g_leastPart])), (a_sums, .inl (cZ, 241, .inl v_sums))]) ([.ref a_this, .int q1, .int q2] : List Value).toArray s 0 0 A) (F0 m 94 ls [.int k1, .int k0]) := by
            intro x5 x6 k0 k1 g_sums t H locs ls hf hF hP hD hS hl
            unfold bX8_ownSums_94 at hf
            refine lv_iadd hx hb dX8_ownSums_94 ?_
            refine lv_topi (fun y4 ey4 => ?_)
            have hf := lt_some hf y4 ey4
            refine lv_istore_n (lv' := [(3, .int y4), (0, .ref a_this), (1, .int x1), (2, .int x2), (4, .int x4), (5, .int x5), (6, .int x6)]) hx hb dX8_ownSums_95 rfl hl (by decide) rfl (fun ls hl => ?_)
            refine lv_aload_n hx hb dX8_ownSums_96 rfl (lv_at hl 1 rfl) ?_
            refine va_get (D := D) (ci := 8) (v := .ref a_sums) (C := RX8) (T := TX8) (N := 17) hx hb hts z1 hown hN.1 hP 0 rfl rfl 9 (by decide) z2 (fun _ h9 => h9) rfl dX8_ownSums_97 ?_
            refine lv_iload hx hb dX8_ownSums_100 (lv_at hl 4 rfl) ?_
            refine lv_iload hx hb dX8_ownSums_102 (lv_at hl 5 rfl) ?_
            refine lv_iadd hx hb dX8_ownSums_104 ?_
            refine lv_aload_n hx hb dX8_ownSums_105 rfl (lv_at hl 1 rfl) ?_
            refine va_get (D := D) (ci := 8) (v := .ref a_sums) (C := RX8) (T := TX8) (N := 17) hx hb hts z1 hown hN.1 hP 0 rfl rfl 9 (by decide) z2 (fun _ h9 => h9) rfl dX8_ownSums_106 ?_
            refine lv_iload hx hb dX8_ownSums_109 (lv_at hl 4 rfl) ?_
            refine lv_iload hx hb dX8_ownSums_111 (lv_at hl 5 rfl) ?_
            refine lv_iadd hx hb dX8_ownSums_113 ?_
            obtain ⟨c5, hf⟩ := gd_some hf
            refine va_zald hx hb hN.1 hP 1 3 rfl rfl (ix_in c5) dX8_ownSums_114 ?_
            refine lv_if_ne (tgt := 123) hx hb dX8_ownSums_115 (by decide) (fun c6 => ?_) (fun c6 => ?_)
            · have hf := br_neg c6 hf
              exact w123 y4 x5 (x4 + x5) g_sums _ H locs ls hf hF hP hD hS (lv_sub hl [1, 2, 3, 0, 4, 5] rfl)
            · have hf := br_pos c6 hf
              refine lv_iload hx hb dX8_ownSums_118 (lv_at hl 6 rfl) ?_
              refine lv_if_eq (tgt := 127) hx hb dX8_ownSums_120 (by decide) (fun c7 => ?_) (fun c7 => ?_)
              · have hf := br_pos c7 hf
                refine lv_iconst (v := 0) hx hb dX8_ownSums_127 (by decide) ?_
                exact w128 y4 x5 (x4 + x5) (0 : Int32) g_sums _ H locs ls hf hF hP hD hS (lv_sub hl [1, 2, 3, 0, 4, 5] rfl)
              · have hf := br_neg c7 hf
                exact w123 y4 x5 (x4 + x5) g_sums _ H locs ls hf hF hP hD hS (lv_sub hl [1, 2, 3, 0, 4, 5] rfl)
          have w81 : ∀ (x3 : Int32) (x5 : Int32) (k0 : Int32) (g_sums : Nat → Int32) (t : (Int32 × Int32 × (Nat → Int32)) ⊕ ((Int32 × Int32 × (Nat → Int32)) ⊕ (Int32 × (Nat → Int32)))) (H : Heap) (locs : List Loc) (ls : Array Slot), bX8_ownSums_81 x1 x2 x3 x4 x5 k0 g_sums = some t → (Sum.elim F36 (Sum.elim F27 (fun z => z = (r0, v_sums)))) t → va_P D vwCl [(a_this, .inr (8, [.int g_length, .ref a_text, .ref a_now, .ref a_before, .int g_undoMany, .ref a_read, .int g_spot, .ref a_first, .ref a_second, .ref a_sums, .ref a_other, .int g_step, .int g_coverMany, .ref a_grid, .ref a_order, .int g_leastSums, .int g_leastPart])), (a_sums, .inl (cZ, 241, .inl g_sums))] H → va_D A [(a_this, .inr (8, [.int g_length, .ref a_text, .ref a_now, .ref a_before, .int g_undoMany, .ref a_read, .int g_spot, .ref a_first, .ref a_second, .ref a_sums, .ref a_other, .int g_step, .int g_coverMany, .ref a_grid, .ref a_order, .int g_leastSums, .int g_leastPart])), (a_sums, .inl (cZ, 241, .inl g_sums))] → va_S A s.heap H locs → lv_has ls 7 [(0, .ref a_this), (1, .int x1), (2, .int x2), (3, .int x3), (4, .int x4), (5, .int x5)] → W p l e rmX8_ownSums s m ([.ref a_this, .int q1, .int q2] : List Value).toArray below meth c H locs 0 0 (MQ below (cQi D r0 A [(a_this, .inr (8, [.int g_length, .ref a_text, .ref a_now, .ref a_before, .int g_undoMany, .ref a_read, .int g_spot, .ref a_first, .ref a_second, .ref a_sums, .ref a_other, .int g_step, .int g_coverMany, .ref a_grid, .ref a_order, .int g_leastSums, .int g_leastPart])), (a_sums, .inl (cZ, 241, .inl v_sums))]) ([.ref a_this, .int q1, .int q2] : List Value).toArray s 0 0 A) (F0 m 81 ls [.int k0]) := by
            intro x3 x5 k0 g_sums t H locs ls hf hF hP hD hS hl
            unfold bX8_ownSums_81 at hf
            refine lv_istore (lv' := [(6, .int k0), (0, .ref a_this), (1, .int x1), (2, .int x2), (3, .int x3), (4, .int x4), (5, .int x5)]) hx hb dX8_ownSums_81 hl (by decide) rfl (fun ls hl => ?_)
            refine lv_iload_n hx hb dX8_ownSums_83 rfl (lv_at hl 4 rfl) ?_
            refine lv_iload hx hb dX8_ownSums_84 (lv_at hl 0 rfl) ?_
            refine lv_if_eq (tgt := 93) hx hb dX8_ownSums_86 (by decide) (fun c8 => ?_) (fun c8 => ?_)
            · have hf := br_pos c8 hf
              refine lv_iconst (v := 0) hx hb dX8_ownSums_93 (by decide) ?_
              exact w94 x5 k0 x3 (0 : Int32) g_sums _ H locs ls hf hF hP hD hS (lv_sub hl [1, 2, 3, 5, 6, 0] rfl)
            · have hf := br_neg c8 hf
              refine lv_iconst (v := 1) hx hb dX8_ownSums_89 (by decide) ?_
              refine lv_goto (tgt := 94) hx hb dX8_ownSums_90 (by decide) ?_
              exact w94 x5 k0 x3 (1 : Int32) g_sums _ H locs ls hf hF hP hD hS (lv_sub hl [1, 2, 3, 5, 6, 0] rfl)
          have w80 : ∀ (x3 : Int32) (x5 : Int32) (g_sums : Nat → Int32) (t : (Int32 × Int32 × (Nat → Int32)) ⊕ ((Int32 × Int32 × (Nat → Int32)) ⊕ (Int32 × (Nat → Int32)))) (H : Heap) (locs : List Loc) (ls : Array Slot), bX8_ownSums_80 x1 x2 x3 x4 x5 g_sums = some t → (Sum.elim F36 (Sum.elim F27 (fun z => z = (r0, v_sums)))) t → va_P D vwCl [(a_this, .inr (8, [.int g_length, .ref a_text, .ref a_now, .ref a_before, .int g_undoMany, .ref a_read, .int g_spot, .ref a_first, .ref a_second, .ref a_sums, .ref a_other, .int g_step, .int g_coverMany, .ref a_grid, .ref a_order, .int g_leastSums, .int g_leastPart])), (a_sums, .inl (cZ, 241, .inl g_sums))] H → va_D A [(a_this, .inr (8, [.int g_length, .ref a_text, .ref a_now, .ref a_before, .int g_undoMany, .ref a_read, .int g_spot, .ref a_first, .ref a_second, .ref a_sums, .ref a_other, .int g_step, .int g_coverMany, .ref a_grid, .ref a_order, .int g_leastSums, .int g_leastPart])), (a_sums, .inl (cZ, 241, .inl g_sums))] → va_S A s.heap H locs → lv_has ls 7 [(0, .ref a_this), (1, .int x1), (2, .int x2), (3, .int x3), (4, .int x4), (5, .int x5)] → W p l e rmX8_ownSums s m ([.ref a_this, .int q1, .int q2] : List Value).toArray below meth c H locs 0 0 (MQ below (cQi D r0 A [(a_this, .inr (8, [.int g_length, .ref a_text, .ref a_now, .ref a_before, .int g_undoMany, .ref a_read, .int g_spot, .ref a_first, .ref a_second, .ref a_sums, .ref a_other, .int g_step, .int g_coverMany, .ref a_grid, .ref a_order, .int g_leastSums, .int g_leastPart])), (a_sums, .inl (cZ, 241, .inl v_sums))]) ([.ref a_this, .int q1, .int q2] : List Value).toArray s 0 0 A) (F0 m 80 ls []) := by
            intro x3 x5 g_sums t H locs ls hf hF hP hD hS hl
            unfold bX8_ownSums_80 at hf
            refine lv_iconst (v := 0) hx hb dX8_ownSums_80 (by decide) ?_
            exact w81 x3 x5 (0 : Int32) g_sums _ H locs ls hf hF hP hD hS (lv_sub hl [0, 1, 2, 3, 4, 5] rfl)
          rw [eF36]
          obtain ⟨x3, x5, g_sums⟩ := q
          intro H locs ls hP hD hS hl
          have hP : va_P D vwCl [(a_this, .inr (8, [.int g_length, .ref a_text, .ref a_now, .ref a_before, .int g_undoMany, .ref a_read, .int g_spot, .ref a_first, .ref a_second, .ref a_sums, .ref a_other, .int g_step, .int g_coverMany, .ref a_grid, .ref a_order, .int g_leastSums, .int g_leastPart])), (a_sums, .inl (cZ, 241, .inl g_sums))] H := hP
          have hD : va_D A [(a_this, .inr (8, [.int g_length, .ref a_text, .ref a_now, .ref a_before, .int g_undoMany, .ref a_read, .int g_spot, .ref a_first, .ref a_second, .ref a_sums, .ref a_other, .int g_step, .int g_coverMany, .ref a_grid, .ref a_order, .int g_leastSums, .int g_leastPart])), (a_sums, .inl (cZ, 241, .inl g_sums))] := hD
          have hl : lv_has ls 7 [(0, .ref a_this), (1, .int x1), (2, .int x2), (3, .int x3), (4, .int x4), (5, .int x5)] := hl
          have hf : bX8_ownSums_36 x1 x2 x4 x3 x5 g_sums = some t := hf
          unfold bX8_ownSums_36 at hf
          refine lv_iload hx hb dX8_ownSums_36 (lv_at hl 5 rfl) ?_
          refine lv_iload hx hb dX8_ownSums_38 (lv_at hl 4 rfl) ?_
          refine lv_icmp_gt (tgt := 135) hx hb dX8_ownSums_40 (by decide) (fun c9 => ?_) (fun c9 => ?_)
          · have hf := br_pos c9 hf
            obtain ⟨y10, ey10⟩ : ∃ z : Int32, z = x4 + (1 : Int32) := ⟨_, rfl⟩
            have hf := lt_some hf y10 ey10
            refine lv_iinc (v := y10) (lv' := [(4, .int y10), (0, .ref a_this), (1, .int x1), (2, .int x2), (3, .int x3), (5, .int x5)]) hx hb dX8_ownSums_135 hl (k := 4) rfl (by rw [ey10]; rfl) (by decide) rfl (fun ls hl => ?_)
            refine lv_goto (tgt := 27) hx hb dX8_ownSums_138 (by decide) ?_
            cases hf
            exact ((congrFun eF27 _).mp hF) H locs ls hP hD hS (lv_sub hl [1, 2, 3, 4, 0] rfl)
          · have hf := br_neg c9 hf
            refine lv_iload_n hx hb dX8_ownSums_43 rfl (lv_at hl 1 rfl) ?_
            refine lv_iload hx hb dX8_ownSums_44 (lv_at hl 4 rfl) ?_
            refine lv_ishr hx hb dX8_ownSums_46 ?_
            refine lv_iconst (v := 1) hx hb dX8_ownSums_47 (by decide) ?_
            refine lv_iand hx hb dX8_ownSums_48 ?_
            refine lv_iconst (v := 1) hx hb dX8_ownSums_49 (by decide) ?_
            refine lv_icmp_ne (tgt := 80) hx hb dX8_ownSums_50 (by decide) (fun c11 => ?_) (fun c11 => ?_)
            · have hf := br_neg c11 hf
              exact w80 x3 x5 g_sums _ H locs ls hf hF hP hD hS (lv_sub hl [0, 1, 2, 3, 4, 5] rfl)
            · have hf := br_pos c11 hf
              refine lv_iload_n hx hb dX8_ownSums_53 rfl (lv_at hl 1 rfl) ?_
              refine lv_iload hx hb dX8_ownSums_54 (lv_at hl 5 rfl) ?_
              refine lv_ishr hx hb dX8_ownSums_56 ?_
              refine lv_iconst (v := 1) hx hb dX8_ownSums_57 (by decide) ?_
              refine lv_iand hx hb dX8_ownSums_58 ?_
              refine lv_iconst (v := 1) hx hb dX8_ownSums_59 (by decide) ?_
              refine lv_icmp_ne (tgt := 80) hx hb dX8_ownSums_60 (by decide) (fun c12 => ?_) (fun c12 => ?_)
              · have hf := br_neg c12 hf
                exact w80 x3 x5 g_sums _ H locs ls hf hF hP hD hS (lv_sub hl [0, 1, 2, 3, 4, 5] rfl)
              · have hf := br_pos c12 hf
                refine lv_aload_n hx hb dX8_ownSums_63 rfl (lv_at hl 0 rfl) ?_
                refine va_get (D := D) (ci := 8) (v := .ref a_sums) (C := RX8) (T := TX8) (N := 17) hx hb hts z1 hown hN.1 hP 0 rfl rfl 9 (by decide) z2 (fun _ h9 => h9) rfl dX8_ownSums_64 ?_
                refine lv_iload hx hb dX8_ownSums_67 (lv_at hl 4 rfl) ?_
                refine lv_iload hx hb dX8_ownSums_69 (lv_at hl 5 rfl) ?_
                refine lv_iadd hx hb dX8_ownSums_71 ?_
                obtain ⟨c13, hf⟩ := gd_some hf
                refine va_zald hx hb hN.1 hP 1 3 rfl rfl (ix_in c13) dX8_ownSums_72 ?_
                refine lv_if_ne (tgt := 80) hx hb dX8_ownSums_73 (by decide) (fun c14 => ?_) (fun c14 => ?_)
                · have hf := br_neg c14 hf
                  exact w80 x3 x5 g_sums _ H locs ls hf hF hP hD hS (lv_sub hl [0, 1, 2, 3, 4, 5] rfl)
                · have hf := br_pos c14 hf
                  refine lv_iconst (v := 1) hx hb dX8_ownSums_76 (by decide) ?_
                  refine lv_goto (tgt := 81) hx hb dX8_ownSums_77 (by decide) ?_
                  exact w81 x3 x5 (1 : Int32) g_sums _ H locs ls hf hF hP hD hS (lv_sub hl [0, 1, 2, 3, 4, 5] rfl)
        intro x3 x5 g_sums t H locs ls hf hF hP hD hS hl
        exact ((congrFun eF36 _).mp (key ((x3, x5, g_sums)) t hf hF)) H locs ls hP hD hS hl
      rw [eF27]
      obtain ⟨x3, x4, g_sums⟩ := q
      intro H locs ls hP hD hS hl
      have hP : va_P D vwCl [(a_this, .inr (8, [.int g_length, .ref a_text, .ref a_now, .ref a_before, .int g_undoMany, .ref a_read, .int g_spot, .ref a_first, .ref a_second, .ref a_sums, .ref a_other, .int g_step, .int g_coverMany, .ref a_grid, .ref a_order, .int g_leastSums, .int g_leastPart])), (a_sums, .inl (cZ, 241, .inl g_sums))] H := hP
      have hD : va_D A [(a_this, .inr (8, [.int g_length, .ref a_text, .ref a_now, .ref a_before, .int g_undoMany, .ref a_read, .int g_spot, .ref a_first, .ref a_second, .ref a_sums, .ref a_other, .int g_step, .int g_coverMany, .ref a_grid, .ref a_order, .int g_leastSums, .int g_leastPart])), (a_sums, .inl (cZ, 241, .inl g_sums))] := hD
      have hl : lv_has ls 7 [(0, .ref a_this), (1, .int x1), (2, .int x2), (3, .int x3), (4, .int x4)] := hl
      have hf : bX8_ownSums_27 x1 x2 x3 x4 g_sums = some t := hf
      unfold bX8_ownSums_27 at hf
      refine lv_iload hx hb dX8_ownSums_27 (lv_at hl 4 rfl) ?_
      refine lv_iload_n hx hb dX8_ownSums_29 rfl (lv_at hl 2 rfl) ?_
      refine lv_icmp_gt (tgt := 141) hx hb dX8_ownSums_30 (by decide) (fun c15 => ?_) (fun c15 => ?_)
      · have hf := br_pos c15 hf
        refine lv_iload_n hx hb dX8_ownSums_141 rfl (lv_at hl 3 rfl) ?_
        cases hf
        have hE : (x3, g_sums) = (r0, v_sums) := hF
        simp only [Prod.mk.injEq] at hE
        obtain ⟨rfl, rfl⟩ := hE
        exact rtI hx hb hr hlk hP hD hS dX8_ownSums_142
      · have hf := br_neg c15 hf
        refine lv_iconst (v := 0) hx hb dX8_ownSums_33 (by decide) ?_
        refine lv_istore (lv' := [(5, .int (0 : Int32)), (0, .ref a_this), (1, .int x1), (2, .int x2), (3, .int x3), (4, .int x4)]) hx hb dX8_ownSums_34 hl (by decide) rfl (fun ls hl => ?_)
        exact w36 x4 x3 (0 : Int32) g_sums _ H locs ls hf hF hP hD hS (lv_sub hl [1, 2, 3, 4, 5, 0] rfl)
    intro x3 x4 g_sums t H locs ls hf hF hP hD hS hl
    exact ((congrFun eF27 _).mp (key ((x3, x4, g_sums)) t hf hF)) H locs ls hP hD hS hl
  have w2 : ∀ (x1 : Int32) (x2 : Int32) (x3 : Int32) (g_sums : Nat → Int32) (t : Int32 × (Nat → Int32)) (H : Heap) (locs : List Loc) (ls : Array Slot), run (sX8_ownSums_2 x1 x2) ((x3, g_sums)) = some t → (fun z => z = (r0, v_sums)) t → va_P D vwCl [(a_this, .inr (8, [.int g_length, .ref a_text, .ref a_now, .ref a_before, .int g_undoMany, .ref a_read, .int g_spot, .ref a_first, .ref a_second, .ref a_sums, .ref a_other, .int g_step, .int g_coverMany, .ref a_grid, .ref a_order, .int g_leastSums, .int g_leastPart])), (a_sums, .inl (cZ, 241, .inl g_sums))] H → va_D A [(a_this, .inr (8, [.int g_length, .ref a_text, .ref a_now, .ref a_before, .int g_undoMany, .ref a_read, .int g_spot, .ref a_first, .ref a_second, .ref a_sums, .ref a_other, .int g_step, .int g_coverMany, .ref a_grid, .ref a_order, .int g_leastSums, .int g_leastPart])), (a_sums, .inl (cZ, 241, .inl g_sums))] → va_S A s.heap H locs → lv_has ls 7 [(0, .ref a_this), (1, .int x1), (2, .int x2), (3, .int x3)] → W p l e rmX8_ownSums s m ([.ref a_this, .int q1, .int q2] : List Value).toArray below meth c H locs 0 0 (MQ below (cQi D r0 A [(a_this, .inr (8, [.int g_length, .ref a_text, .ref a_now, .ref a_before, .int g_undoMany, .ref a_read, .int g_spot, .ref a_first, .ref a_second, .ref a_sums, .ref a_other, .int g_step, .int g_coverMany, .ref a_grid, .ref a_order, .int g_leastSums, .int g_leastPart])), (a_sums, .inl (cZ, 241, .inl v_sums))]) ([.ref a_this, .int q1, .int q2] : List Value).toArray s 0 0 A) (F0 m 2 ls []) := by
    intro x1 x2
    obtain ⟨F2, eF2⟩ : ∃ F : (Int32 × (Nat → Int32)) → Prop, F = fun q => ∀ (H : Heap) (locs : List Loc) (ls : Array Slot), va_P D vwCl [(a_this, .inr (8, [.int g_length, .ref a_text, .ref a_now, .ref a_before, .int g_undoMany, .ref a_read, .int g_spot, .ref a_first, .ref a_second, .ref a_sums, .ref a_other, .int g_step, .int g_coverMany, .ref a_grid, .ref a_order, .int g_leastSums, .int g_leastPart])), (a_sums, .inl (cZ, 241, .inl q.2))] H → va_D A [(a_this, .inr (8, [.int g_length, .ref a_text, .ref a_now, .ref a_before, .int g_undoMany, .ref a_read, .int g_spot, .ref a_first, .ref a_second, .ref a_sums, .ref a_other, .int g_step, .int g_coverMany, .ref a_grid, .ref a_order, .int g_leastSums, .int g_leastPart])), (a_sums, .inl (cZ, 241, .inl q.2))] → va_S A s.heap H locs → lv_has ls 7 [(0, .ref a_this), (1, .int x1), (2, .int x2), (3, .int q.1)] → W p l e rmX8_ownSums s m ([.ref a_this, .int q1, .int q2] : List Value).toArray below meth c H locs 0 0 (MQ below (cQi D r0 A [(a_this, .inr (8, [.int g_length, .ref a_text, .ref a_now, .ref a_before, .int g_undoMany, .ref a_read, .int g_spot, .ref a_first, .ref a_second, .ref a_sums, .ref a_other, .int g_step, .int g_coverMany, .ref a_grid, .ref a_order, .int g_leastSums, .int g_leastPart])), (a_sums, .inl (cZ, 241, .inl v_sums))]) ([.ref a_this, .int q1, .int q2] : List Value).toArray s 0 0 A) (F0 m 2 ls []) := ⟨_, rfl⟩
    have key : ∀ (q : Int32 × (Nat → Int32)) (t : Int32 × (Nat → Int32)), run (sX8_ownSums_2 x1 x2) q = some t → (fun z => z = (r0, v_sums)) t → F2 q := by
      refine loop_rule (sX8_ownSums_2 x1 x2) F2 (fun z => z = (r0, v_sums)) ?_
      intro q t hf hF
      have hF : (Sum.elim F2 (fun z => z = (r0, v_sums))) t := hF
      rw [eF2]
      obtain ⟨x3, g_sums⟩ := q
      intro H locs ls hP hD hS hl
      have hP : va_P D vwCl [(a_this, .inr (8, [.int g_length, .ref a_text, .ref a_now, .ref a_before, .int g_undoMany, .ref a_read, .int g_spot, .ref a_first, .ref a_second, .ref a_sums, .ref a_other, .int g_step, .int g_coverMany, .ref a_grid, .ref a_order, .int g_leastSums, .int g_leastPart])), (a_sums, .inl (cZ, 241, .inl g_sums))] H := hP
      have hD : va_D A [(a_this, .inr (8, [.int g_length, .ref a_text, .ref a_now, .ref a_before, .int g_undoMany, .ref a_read, .int g_spot, .ref a_first, .ref a_second, .ref a_sums, .ref a_other, .int g_step, .int g_coverMany, .ref a_grid, .ref a_order, .int g_leastSums, .int g_leastPart])), (a_sums, .inl (cZ, 241, .inl g_sums))] := hD
      have hl : lv_has ls 7 [(0, .ref a_this), (1, .int x1), (2, .int x2), (3, .int x3)] := hl
      have hf : bX8_ownSums_2 x1 x2 x3 g_sums = some t := hf
      unfold bX8_ownSums_2 at hf
      refine lv_iload_n hx hb dX8_ownSums_2 rfl (lv_at hl 3 rfl) ?_
      refine lv_iconst (v := 2) hx hb dX8_ownSums_3 (by decide) ?_
      refine lv_iload_n hx hb dX8_ownSums_4 rfl (lv_at hl 2 rfl) ?_
      refine lv_imul hx hb dX8_ownSums_5 ?_
      refine lv_icmp_gt (tgt := 22) hx hb dX8_ownSums_6 (by decide) (fun c16 => ?_) (fun c16 => ?_)
      · have hf := br_pos c16 hf
        refine lv_iconst (v := 0) hx hb dX8_ownSums_22 (by decide) ?_
        refine lv_istore_n (lv' := [(3, .int (0 : Int32)), (0, .ref a_this), (1, .int x1), (2, .int x2)]) hx hb dX8_ownSums_23 rfl hl (by decide) rfl (fun ls hl => ?_)
        refine lv_iconst (v := 0) hx hb dX8_ownSums_24 (by decide) ?_
        refine lv_istore (lv' := [(4, .int (0 : Int32)), (3, .int (0 : Int32)), (0, .ref a_this), (1, .int x1), (2, .int x2)]) hx hb dX8_ownSums_25 hl (by decide) rfl (fun ls hl => ?_)
        obtain ⟨t17, hf, hF⟩ := ml_fin hf hF
        have hF : t17 = (r0, v_sums) := hF
        rw [hF] at hf
        exact w27 x1 x2 (0 : Int32) (0 : Int32) g_sums (r0, v_sums) H locs ls hf rfl hP hD hS (lv_sub hl [2, 3, 4, 1, 0] rfl)
      · have hf := br_neg c16 hf
        refine lv_aload_n hx hb dX8_ownSums_9 rfl (lv_at hl 0 rfl) ?_
        refine va_get (D := D) (ci := 8) (v := .ref a_sums) (C := RX8) (T := TX8) (N := 17) hx hb hts z1 hown hN.1 hP 0 rfl rfl 9 (by decide) z2 (fun _ h9 => h9) rfl dX8_ownSums_10 ?_
        refine lv_iload_n hx hb dX8_ownSums_13 rfl (lv_at hl 3 rfl) ?_
        refine lv_iconst (v := 0) hx hb dX8_ownSums_14 (by decide) ?_
        obtain ⟨c18, hf⟩ := gd_some hf
        refine va_zast hx hb hN.1 hP hD hS 1 3 rfl rfl (ix_in c18) dX8_ownSums_15 (fun H locs hP hD hS => ?_)
        obtain ⟨y19, ey19⟩ : ∃ z, z = upd g_sums x3.toNatClampNeg (vp_nar .boolean (0 : Int32)) := ⟨_, rfl⟩
        have hf := lt_some hf y19 ey19
        have hP : va_P D vwCl [(a_this, .inr (8, [.int g_length, .ref a_text, .ref a_now, .ref a_before, .int g_undoMany, .ref a_read, .int g_spot, .ref a_first, .ref a_second, .ref a_sums, .ref a_other, .int g_step, .int g_coverMany, .ref a_grid, .ref a_order, .int g_leastSums, .int g_leastPart])), (a_sums, .inl (cZ, 241, .inl y19))] H := by rw [ey19]; exact hP
        have hD : va_D A [(a_this, .inr (8, [.int g_length, .ref a_text, .ref a_now, .ref a_before, .int g_undoMany, .ref a_read, .int g_spot, .ref a_first, .ref a_second, .ref a_sums, .ref a_other, .int g_step, .int g_coverMany, .ref a_grid, .ref a_order, .int g_leastSums, .int g_leastPart])), (a_sums, .inl (cZ, 241, .inl y19))] := by rw [ey19]; exact hD
        obtain ⟨y20, ey20⟩ : ∃ z : Int32, z = x3 + (1 : Int32) := ⟨_, rfl⟩
        have hf := lt_some hf y20 ey20
        refine lv_iinc (v := y20) (lv' := [(3, .int y20), (0, .ref a_this), (1, .int x1), (2, .int x2)]) hx hb dX8_ownSums_16 hl (k := 3) rfl (by rw [ey20]; rfl) (by decide) rfl (fun ls hl => ?_)
        refine lv_goto (tgt := 2) hx hb dX8_ownSums_19 (by decide) ?_
        cases hf
        exact ((congrFun eF2 _).mp hF) H locs ls hP hD hS (lv_sub hl [1, 2, 3, 0] rfl)
    intro x3 g_sums t H locs ls hf hF hP hD hS hl
    exact ((congrFun eF2 _).mp (key ((x3, g_sums)) t hf hF)) H locs ls hP hD hS hl
  unfold fX8_ownSums at hf
  obtain ⟨H, eH⟩ : ∃ z, z = s.heap := ⟨_, rfl⟩
  obtain ⟨locs, eL⟩ : ∃ z : List Loc, z = [] := ⟨_, rfl⟩
  have hP : va_P D vwCl [(a_this, .inr (8, [.int g_length, .ref a_text, .ref a_now, .ref a_before, .int g_undoMany, .ref a_read, .int g_spot, .ref a_first, .ref a_second, .ref a_sums, .ref a_other, .int g_step, .int g_coverMany, .ref a_grid, .ref a_order, .int g_leastSums, .int g_leastPart])), (a_sums, .inl (cZ, 241, .inl g_sums))] H := by rw [eH]; exact hP
  have hS : va_S A s.heap H locs := by rw [eH, eL]; exact hS
  suffices hG : W p l e rmX8_ownSums s m ([.ref a_this, .int q1, .int q2] : List Value).toArray below meth c H locs 0 0 (MQ below (cQi D r0 A [(a_this, .inr (8, [.int g_length, .ref a_text, .ref a_now, .ref a_before, .int g_undoMany, .ref a_read, .int g_spot, .ref a_first, .ref a_second, .ref a_sums, .ref a_other, .int g_step, .int g_coverMany, .ref a_grid, .ref a_order, .int g_leastSums, .int g_leastPart])), (a_sums, .inl (cZ, 241, .inl v_sums))]) ([.ref a_this, .int q1, .int q2] : List Value).toArray s 0 0 A) (F0 m 0 ls []) by rw [eH, eL] at hG; exact hG
  refine lv_iconst (v := 0) hx hb dX8_ownSums_0 (by decide) ?_
  refine lv_istore_n (lv' := [(3, .int (0 : Int32)), (0, .ref a_this), (1, .int q1), (2, .int q2)]) hx hb dX8_ownSums_1 rfl hl (by decide) rfl (fun ls hl => ?_)
  exact w2 q1 q2 (0 : Int32) g_sums (r0, v_sums) H locs ls hf rfl hP hD hS (lv_sub hl [1, 2, 3, 0] rfl)
abbrev rmX8_isOfSize : Room := { frames := 0, cells := 0, slots := 0, locals := 0 }
noncomputable def bX8_isOfSize_51 : Option (Int32) := gd ((0 : Int32) = 0 ∨ (0 : Int32) = 1) (some ((0 : Int32)))
noncomputable def bX8_isOfSize_5 (x0 : Int32) (x1 : Int32) (x2 : Int32) (x3 : Int32) (x4 : Int32) : Option ((Int32 × Int32) ⊕ (Int32)) := br (x2 < x4) (br (x3 = x1) (br ((x0 &&& (1 : Int32)) = (1 : Int32)) (br (((x0 >>> (x2 &&& 31)) &&& (1 : Int32)) = (1 : Int32)) (gd ((1 : Int32) = 0 ∨ (1 : Int32) = 1) (some (Sum.inr ((1 : Int32))))) (ml (bX8_isOfSize_51))) (ml (bX8_isOfSize_51))) (ml (bX8_isOfSize_51))) (lt_ (x3 + ((x0 >>> (x4 &&& 31)) &&& (1 : Int32))) (fun y10 => lt_ (x4 + (1 : Int32)) (fun y11 => some (Sum.inl ((y10, y11))))))
noncomputable def sX8_isOfSize_5 (x0 : Int32) (x1 : Int32) (x2 : Int32) : (Int32 × Int32) → Option ((Int32 × Int32) ⊕ (Int32)) := fun q => bX8_isOfSize_5 x0 x1 x2 q.1 q.2
noncomputable def fX8_isOfSize (q0 : Int32) (q1 : Int32) (q2 : Int32) : Option (Int32) := run (sX8_isOfSize_5 q0 q1 q2) (((0 : Int32), (0 : Int32)))
set_option maxHeartbeats 4000000 in
set_option maxRecDepth 100000 in
theorem cX8_isOfSize_ct (l : Launch) (D : va_G) (cI cL cC cZ : ClassId) (q0 : Int32) (q1 : Int32) (q2 : Int32) (r0 : Int32) (hf : fX8_isOfSize q0 q1 q2 = some r0) : CtI l yX8_isOfSize wsX8_isOfSize rmX8_isOfSize D (tyz cI cL cC cZ) [.int q0, .int q1, .int q2] [] [] r0 := by
  refine CtI.make (cc := cX8_isOfSize) (maxL := 5) (ty := .boolean) (by decide) rfl (Nat.le_of_ble_eq_true rfl) ?_
  intro p e s m below meth c A ls C0 hN hA hP hD hl
  obtain ⟨hx, hb, hr, hml, hown, hts, hlk⟩ := id C0
  have hown : s.vm.findClass RX8 = some m.cls := hown
  have hS : va_S A s.heap s.heap [] := va_S.rf
  have hP : va_P D vwCl [] s.heap := hP
  have hD : va_D A [] := hD
  have hl : lv_has ls 5 [(0, .int q0), (1, .int q1), (2, .int q2)] := hl
  have w51 : ∀ (H : Heap) (locs : List Loc) (ls : Array Slot), bX8_isOfSize_51 = some r0 → va_P D vwCl [] H → va_D A [] → va_S A s.heap H locs → lv_has ls 5 [] → W p l e rmX8_isOfSize s m ([.int q0, .int q1, .int q2] : List Value).toArray below meth c H locs 0 0 (MQ below (cQi D r0 A []) ([.int q0, .int q1, .int q2] : List Value).toArray s 0 0 A) (F0 m 51 ls []) := by
    intro  H locs ls hf hP hD hS hl
    unfold bX8_isOfSize_51 at hf
    refine lv_iconst (v := 0) hx hb dX8_isOfSize_51 (by decide) ?_
    obtain ⟨c1, hf⟩ := gd_some hf
    have hE : (0 : Int32) = r0 := Option.some.inj hf
    subst hE
    exact rtZ hx hb hr hlk c1 hP hD hS dX8_isOfSize_52
  have w5 : ∀ (x0 : Int32) (x1 : Int32) (x2 : Int32) (x3 : Int32) (x4 : Int32) (t : Int32) (H : Heap) (locs : List Loc) (ls : Array Slot), run (sX8_isOfSize_5 x0 x1 x2) ((x3, x4)) = some t → (fun z => z = r0) t → va_P D vwCl [] H → va_D A [] → va_S A s.heap H locs → lv_has ls 5 [(0, .int x0), (1, .int x1), (2, .int x2), (3, .int x3), (4, .int x4)] → W p l e rmX8_isOfSize s m ([.int q0, .int q1, .int q2] : List Value).toArray below meth c H locs 0 0 (MQ below (cQi D r0 A []) ([.int q0, .int q1, .int q2] : List Value).toArray s 0 0 A) (F0 m 5 ls []) := by
    intro x0 x1 x2
    obtain ⟨F5, eF5⟩ : ∃ F : (Int32 × Int32) → Prop, F = fun q => ∀ (H : Heap) (locs : List Loc) (ls : Array Slot), va_P D vwCl [] H → va_D A [] → va_S A s.heap H locs → lv_has ls 5 [(0, .int x0), (1, .int x1), (2, .int x2), (3, .int q.1), (4, .int q.2)] → W p l e rmX8_isOfSize s m ([.int q0, .int q1, .int q2] : List Value).toArray below meth c H locs 0 0 (MQ below (cQi D r0 A []) ([.int q0, .int q1, .int q2] : List Value).toArray s 0 0 A) (F0 m 5 ls []) := ⟨_, rfl⟩
    have key : ∀ (q : Int32 × Int32) (t : Int32), run (sX8_isOfSize_5 x0 x1 x2) q = some t → (fun z => z = r0) t → F5 q := by
      refine loop_rule (sX8_isOfSize_5 x0 x1 x2) F5 (fun z => z = r0) ?_
      intro q t hf hF
      have hF : (Sum.elim F5 (fun z => z = r0)) t := hF
      rw [eF5]
      obtain ⟨x3, x4⟩ := q
      intro H locs ls hP hD hS hl
      have hP : va_P D vwCl [] H := hP
      have hD : va_D A [] := hD
      have hl : lv_has ls 5 [(0, .int x0), (1, .int x1), (2, .int x2), (3, .int x3), (4, .int x4)] := hl
      have hf : bX8_isOfSize_5 x0 x1 x2 x3 x4 = some t := hf
      unfold bX8_isOfSize_5 at hf
      refine lv_iload hx hb dX8_isOfSize_5 (lv_at hl 4 rfl) ?_
      refine lv_iload_n hx hb dX8_isOfSize_7 rfl (lv_at hl 2 rfl) ?_
      refine lv_icmp_gt (tgt := 26) hx hb dX8_isOfSize_8 (by decide) (fun c2 => ?_) (fun c2 => ?_)
      · have hf := br_pos c2 hf
        refine lv_iload_n hx hb dX8_isOfSize_26 rfl (lv_at hl 3 rfl) ?_
        refine lv_iload_n hx hb dX8_isOfSize_27 rfl (lv_at hl 1 rfl) ?_
        refine lv_icmp_ne (tgt := 51) hx hb dX8_isOfSize_28 (by decide) (fun c3 => ?_) (fun c3 => ?_)
        · have hf := br_neg c3 hf
          obtain ⟨t4, hf, hF⟩ := ml_fin hf hF
          have hF : t4 = r0 := hF
          rw [hF] at hf
          exact w51  H locs ls hf hP hD hS (lv_sub hl [] rfl)
        · have hf := br_pos c3 hf
          refine lv_iload_n hx hb dX8_isOfSize_31 rfl (lv_at hl 0 rfl) ?_
          refine lv_iconst (v := 1) hx hb dX8_isOfSize_32 (by decide) ?_
          refine lv_iand hx hb dX8_isOfSize_33 ?_
          refine lv_iconst (v := 1) hx hb dX8_isOfSize_34 (by decide) ?_
          refine lv_icmp_ne (tgt := 51) hx hb dX8_isOfSize_35 (by decide) (fun c5 => ?_) (fun c5 => ?_)
          · have hf := br_neg c5 hf
            obtain ⟨t6, hf, hF⟩ := ml_fin hf hF
            have hF : t6 = r0 := hF
            rw [hF] at hf
            exact w51  H locs ls hf hP hD hS (lv_sub hl [] rfl)
          · have hf := br_pos c5 hf
            refine lv_iload_n hx hb dX8_isOfSize_38 rfl (lv_at hl 0 rfl) ?_
            refine lv_iload_n hx hb dX8_isOfSize_39 rfl (lv_at hl 2 rfl) ?_
            refine lv_ishr hx hb dX8_isOfSize_40 ?_
            refine lv_iconst (v := 1) hx hb dX8_isOfSize_41 (by decide) ?_
            refine lv_iand hx hb dX8_isOfSize_42 ?_
            refine lv_iconst (v := 1) hx hb dX8_isOfSize_43 (by decide) ?_
            refine lv_icmp_ne (tgt := 51) hx hb dX8_isOfSize_44 (by decide) (fun c7 => ?_) (fun c7 => ?_)
            · have hf := br_neg c7 hf
              obtain ⟨t8, hf, hF⟩ := ml_fin hf hF
              have hF : t8 = r0 := hF
              rw [hF] at hf
              exact w51  H locs ls hf hP hD hS (lv_sub hl [] rfl)
            · have hf := br_pos c7 hf
              refine lv_iconst (v := 1) hx hb dX8_isOfSize_47 (by decide) ?_
              refine lv_goto (tgt := 52) hx hb dX8_isOfSize_48 (by decide) ?_
              obtain ⟨c9, hf⟩ := gd_some hf
              cases hf
              have hE : (1 : Int32) = r0 := hF
              subst hE
              exact rtZ hx hb hr hlk c9 hP hD hS dX8_isOfSize_52
      · have hf := br_neg c2 hf
        refine lv_iload_n hx hb dX8_isOfSize_11 rfl (lv_at hl 3 rfl) ?_
        refine lv_iload_n hx hb dX8_isOfSize_12 rfl (lv_at hl 0 rfl) ?_
        refine lv_iload hx hb dX8_isOfSize_13 (lv_at hl 4 rfl) ?_
        refine lv_ishr hx hb dX8_isOfSize_15 ?_
        refine lv_iconst (v := 1) hx hb dX8_isOfSize_16 (by decide) ?_
        refine lv_iand hx hb dX8_isOfSize_17 ?_
        refine lv_iadd hx hb dX8_isOfSize_18 ?_
        refine lv_topi (fun y10 ey10 => ?_)
        have hf := lt_some hf y10 ey10
        refine lv_istore_n (lv' := [(3, .int y10), (0, .int x0), (1, .int x1), (2, .int x2), (4, .int x4)]) hx hb dX8_isOfSize_19 rfl hl (by decide) rfl (fun ls hl => ?_)
        obtain ⟨y11, ey11⟩ : ∃ z : Int32, z = x4 + (1 : Int32) := ⟨_, rfl⟩
        have hf := lt_some hf y11 ey11
        refine lv_iinc (v := y11) (lv' := [(4, .int y11), (3, .int y10), (0, .int x0), (1, .int x1), (2, .int x2)]) hx hb dX8_isOfSize_20 hl (k := 4) rfl (by rw [ey11]; rfl) (by decide) rfl (fun ls hl => ?_)
        refine lv_goto (tgt := 5) hx hb dX8_isOfSize_23 (by decide) ?_
        cases hf
        exact ((congrFun eF5 _).mp hF) H locs ls hP hD hS (lv_sub hl [2, 3, 4, 1, 0] rfl)
    intro x3 x4 t H locs ls hf hF hP hD hS hl
    exact ((congrFun eF5 _).mp (key ((x3, x4)) t hf hF)) H locs ls hP hD hS hl
  unfold fX8_isOfSize at hf
  obtain ⟨H, eH⟩ : ∃ z, z = s.heap := ⟨_, rfl⟩
  obtain ⟨locs, eL⟩ : ∃ z : List Loc, z = [] := ⟨_, rfl⟩
  have hP : va_P D vwCl [] H := by rw [eH]; exact hP
  have hS : va_S A s.heap H locs := by rw [eH, eL]; exact hS
  suffices hG : W p l e rmX8_isOfSize s m ([.int q0, .int q1, .int q2] : List Value).toArray below meth c H locs 0 0 (MQ below (cQi D r0 A []) ([.int q0, .int q1, .int q2] : List Value).toArray s 0 0 A) (F0 m 0 ls []) by rw [eH, eL] at hG; exact hG
  refine lv_iconst (v := 0) hx hb dX8_isOfSize_0 (by decide) ?_
  refine lv_istore_n (lv' := [(3, .int (0 : Int32)), (0, .int q0), (1, .int q1), (2, .int q2)]) hx hb dX8_isOfSize_1 rfl hl (by decide) rfl (fun ls hl => ?_)
  refine lv_iconst (v := 0) hx hb dX8_isOfSize_2 (by decide) ?_
  refine lv_istore (lv' := [(4, .int (0 : Int32)), (3, .int (0 : Int32)), (0, .int q0), (1, .int q1), (2, .int q2)]) hx hb dX8_isOfSize_3 hl (by decide) rfl (fun ls hl => ?_)
  exact w5 q0 q1 q2 (0 : Int32) (0 : Int32) r0 H locs ls hf rfl hP hD hS (lv_sub hl [2, 3, 4, 1, 0] rfl)
abbrev rmX8_smallest : Room := { frames := 1, cells := 0, slots := 0, locals := 26 }
noncomputable def bX8_smallest_143 (x3 : Int32) (x4 : Int32) (x5 : Int32) (g_sums : Nat → Int32) : Option (Int32 × (Nat → Int32)) := br (x3 = (-1 : Int32)) (some ((x4, g_sums))) (br (x3 = (-2 : Int32)) (some ((x5, g_sums))) (some (((-4 : Int32), g_sums))))
noncomputable def bX8_smallest_229 (x1 : Int32) (x2 : Int32) (x4 : Int32) (x7 : Int32) (k0 : Int32) (k1 : Int32) (g_sums : Nat → Int32) : Option ((Int32 × Int32 × (Nat → Int32)) ⊕ (Int32 × (Nat → Int32))) := lt_ (k0 - k1) (fun y3 => lt_ (x7 + (1 : Int32)) (fun y4 => some (Sum.inl ((y3, y4, g_sums)))))
noncomputable def bX8_smallest_228 (x1 : Int32) (x2 : Int32) (x4 : Int32) (x7 : Int32) (k0 : Int32) (g_sums : Nat → Int32) : Option ((Int32 × Int32 × (Nat → Int32)) ⊕ (Int32 × (Nat → Int32))) := bX8_smallest_229 x1 x2 x4 x7 k0 (0 : Int32) g_sums
noncomputable def bX8_smallest_200 (x1 : Int32) (x2 : Int32) (x4 : Int32) (x6 : Int32) (x7 : Int32) (g_sums : Nat → Int32) : Option ((Int32 × Int32 × (Nat → Int32)) ⊕ (Int32 × (Nat → Int32))) := bd (fX8_isOfSize x7 x1 x2) (fun u5 => br (u5 = 0) (bX8_smallest_228 x1 x2 x4 x7 x6 g_sums) (bd (fX8_ownSums x7 x2 g_sums) (fun u7 => br (u7.1 = x4) (bX8_smallest_229 x1 x2 x4 x7 x6 (1 : Int32) u7.2) (bX8_smallest_228 x1 x2 x4 x7 x6 u7.2))))
noncomputable def bX8_smallest_173 (x1 : Int32) (x2 : Int32) (x4 : Int32) (x6 : Int32) (x7 : Int32) (g_sums : Nat → Int32) : Option ((Int32 × Int32 × (Nat → Int32)) ⊕ (Int32 × (Nat → Int32))) := br (0 < x6) (bX8_smallest_200 x1 x2 x4 x6 x7 g_sums) (bd (fX8_isOfSize x7 x1 x2) (fun u10 => br (u10 = 0) (bX8_smallest_200 x1 x2 x4 x6 x7 g_sums) (bd (fX8_ownSums x7 x2 g_sums) (fun u12 => br (u12.1 = x4) (some (Sum.inr ((x7, u12.2)))) (bX8_smallest_200 x1 x2 x4 x6 x7 u12.2)))))
noncomputable def sX8_smallest_173 (x1 : Int32) (x2 : Int32) (x4 : Int32) : (Int32 × Int32 × (Nat → Int32)) → Option ((Int32 × Int32 × (Nat → Int32)) ⊕ (Int32 × (Nat → Int32))) := fun q => bX8_smallest_173 x1 x2 x4 q.1 q.2.1 q.2.2
noncomputable def bX8_smallest_127 (x1 : Int32) (x2 : Int32) (x3 : Int32) (x4 : Int32) (x5 : Int32) (x6 : Int32) (g_sums : Nat → Int32) : Option ((Int32 × Int32 × Int32 × (Nat → Int32)) ⊕ (Int32 × (Nat → Int32))) := lt_ (x6 + (1 : Int32)) (fun y14 => some (Sum.inl ((x4, x5, y14, g_sums))))
noncomputable def bX8_smallest_125 (x1 : Int32) (x2 : Int32) (x3 : Int32) (x5 : Int32) (x6 : Int32) (k0 : Int32) (g_sums : Nat → Int32) : Option ((Int32 × Int32 × Int32 × (Nat → Int32)) ⊕ (Int32 × (Nat → Int32))) := bX8_smallest_127 x1 x2 x3 k0 x5 x6 g_sums
noncomputable def bX8_smallest_109 (x1 : Int32) (x2 : Int32) (x3 : Int32) (x4 : Int32) (x6 : Int32) (x7 : Int32) (k0 : Int32) (g_sums : Nat → Int32) : Option ((Int32 × Int32 × Int32 × (Nat → Int32)) ⊕ (Int32 × (Nat → Int32))) := br (x4 ≤ x7) (bX8_smallest_125 x1 x2 x3 k0 x6 x4 g_sums) (bX8_smallest_125 x1 x2 x3 k0 x6 x7 g_sums)
noncomputable def bX8_smallest_55 (x1 : Int32) (x2 : Int32) (x3 : Int32) (x4 : Int32) (x5 : Int32) (x6 : Int32) (g_sums : Nat → Int32) : Option ((Int32 × Int32 × Int32 × (Nat → Int32)) ⊕ (Int32 × (Nat → Int32))) := br (((2 : Int32) <<< (x2 &&& 31)) ≤ x6) (br (x3 < 0) (ml (bX8_smallest_143 x3 x4 x5 g_sums)) (br (x3 < x5) (ml (run (sX8_smallest_173 x1 x2 x4) ((x3, (1 : Int32), g_sums)))) (ml (bX8_smallest_143 x3 x4 x5 g_sums)))) (bd (fX8_isOfSize x6 x1 x2) (fun u22 => br (u22 = 0) (bX8_smallest_127 x1 x2 x3 x4 x5 x6 g_sums) (bd (fX8_ownSums x6 x2 g_sums) (fun u24 => br (x4 ≤ u24.1) (br (u24.1 = x4) (bX8_smallest_109 x1 x2 x3 x4 x6 u24.1 (x5 + (1 : Int32)) u24.2) (bX8_smallest_109 x1 x2 x3 x4 x6 u24.1 x5 u24.2)) (bX8_smallest_109 x1 x2 x3 x4 x6 u24.1 (1 : Int32) u24.2)))))
noncomputable def sX8_smallest_55 (x1 : Int32) (x2 : Int32) (x3 : Int32) : (Int32 × Int32 × Int32 × (Nat → Int32)) → Option ((Int32 × Int32 × Int32 × (Nat → Int32)) ⊕ (Int32 × (Nat → Int32))) := fun q => bX8_smallest_55 x1 x2 x3 q.1 q.2.1 q.2.2.1 q.2.2.2
noncomputable def bX8_smallest_30 (x1 : Int32) (x2 : Int32) (x3 : Int32) (k0 : Int64) (k1 : Int64) (k2 : Int64) (g_sums : Nat → Int32) : Option (Int32 × (Nat → Int32)) := bd (fX8_in k0 k1 k2) (fun u27 => br (u27 = 0) (some (((-1 : Int32), g_sums))) (br ((-2 : Int32) ≤ x3) (run (sX8_smallest_55 x1 x2 x3) (((1000 : Int32), (0 : Int32), (1 : Int32), g_sums))) (some (((-1 : Int32), g_sums)))))
noncomputable def fX8_smallest (q1 : Int32) (q2 : Int32) (q3 : Int32) (g_sums : Nat → Int32) : Option (Int32 × (Nat → Int32)) := bd (fX8_in q1.toInt64 (1 : Int64) (8 : Int64)) (fun u30 => br (u30 = 0) (some (((-1 : Int32), g_sums))) (br (q1 = (1 : Int32)) (bX8_smallest_30 q1 q2 q3 q2.toInt64 ((q1 - (1 : Int32)).toInt64) (0 : Int64) g_sums) (bX8_smallest_30 q1 q2 q3 q2.toInt64 ((q1 - (1 : Int32)).toInt64) (14 : Int64) g_sums)))
set_option maxHeartbeats 4000000 in
set_option maxRecDepth 100000 in
theorem cX8_smallest_ct (l : Launch) (D : va_G) (cI cL cC cZ : ClassId) (a_this a_text a_now a_before a_read a_first a_second a_sums a_other a_grid a_order : Nat) (g_length : Int32) (g_undoMany : Int32) (g_spot : Int32) (g_step : Int32) (g_coverMany : Int32) (g_leastSums : Int32) (g_leastPart : Int32) (g_sums : Nat → Int32) (q1 : Int32) (q2 : Int32) (q3 : Int32) (r0 : Int32) (v_sums : Nat → Int32) (hf : fX8_smallest q1 q2 q3 g_sums = some ((r0, v_sums))) : CtI l yX8_smallest wsX8_smallest rmX8_smallest D (tyz cI cL cC cZ) [.ref a_this, .int q1, .int q2, .int q3] [(a_this, .inr (8, [.int g_length, .ref a_text, .ref a_now, .ref a_before, .int g_undoMany, .ref a_read, .int g_spot, .ref a_first, .ref a_second, .ref a_sums, .ref a_other, .int g_step, .int g_coverMany, .ref a_grid, .ref a_order, .int g_leastSums, .int g_leastPart])), (a_sums, .inl (cZ, 241, .inl g_sums))] [(a_this, .inr (8, [.int g_length, .ref a_text, .ref a_now, .ref a_before, .int g_undoMany, .ref a_read, .int g_spot, .ref a_first, .ref a_second, .ref a_sums, .ref a_other, .int g_step, .int g_coverMany, .ref a_grid, .ref a_order, .int g_leastSums, .int g_leastPart])), (a_sums, .inl (cZ, 241, .inl v_sums))] r0 := by
  refine CtI.make (cc := cX8_smallest) (maxL := 8) (ty := .int) (by decide) rfl (Nat.le_of_ble_eq_true rfl) ?_
  intro p e s m below meth c A ls C0 hN hA hP hD hl
  obtain ⟨hx, hb, hr, hml, hown, hts, hlk⟩ := id C0
  have hown : s.vm.findClass RX8 = some m.cls := hown
  have hS : va_S A s.heap s.heap [] := va_S.rf
  have hP : va_P D vwCl [(a_this, .inr (8, [.int g_length, .ref a_text, .ref a_now, .ref a_before, .int g_undoMany, .ref a_read, .int g_spot, .ref a_first, .ref a_second, .ref a_sums, .ref a_other, .int g_step, .int g_coverMany, .ref a_grid, .ref a_order, .int g_leastSums, .int g_leastPart])), (a_sums, .inl (cZ, 241, .inl g_sums))] s.heap := hP
  have hD : va_D A [(a_this, .inr (8, [.int g_length, .ref a_text, .ref a_now, .ref a_before, .int g_undoMany, .ref a_read, .int g_spot, .ref a_first, .ref a_second, .ref a_sums, .ref a_other, .int g_step, .int g_coverMany, .ref a_grid, .ref a_order, .int g_leastSums, .int g_leastPart])), (a_sums, .inl (cZ, 241, .inl g_sums))] := hD
  have hl : lv_has ls 8 [(0, .ref a_this), (1, .int q1), (2, .int q2), (3, .int q3)] := hl
  have z1 := va_cwS (R := rmX8_smallest) (rm := rmX8_isOfSize) (mc := 0) (ms := 0) 3 hts gX8_smallest_X8_isOfSize rfl rfl rfl (by decide +kernel) ⟨Nat.le_of_ble_eq_true rfl, Nat.le_of_ble_eq_true rfl⟩
  have z2 := cwV (R := rmX8_smallest) (rm := rmX8_ownSums) (mc := 0) (ms := 0) 2 hts gX8_smallest_X8_ownSums rfl rfl rfl (by decide +kernel) ⟨Nat.le_of_ble_eq_true rfl, Nat.le_of_ble_eq_true rfl⟩
  have z3 := va_cwS (R := rmX8_smallest) (rm := rmX8_in) (mc := 0) (ms := 0) 3 hts gX8_smallest_X8_in rfl rfl rfl (by decide +kernel) ⟨Nat.le_of_ble_eq_true rfl, Nat.le_of_ble_eq_true rfl⟩
  have z4 := hts (.constantLong RX8 189 (8)) (by decide +kernel)
  have z5 := hts (.constantLong RX8 191 (14)) (by decide +kernel)
  have w143 : ∀ (x3 : Int32) (x4 : Int32) (x5 : Int32) (g_sums : Nat → Int32) (H : Heap) (locs : List Loc) (ls : Array Slot), bX8_smallest_143 x3 x4 x5 g_sums = some ((r0, v_sums)) → va_P D vwCl [(a_this, .inr (8, [.int g_length, .ref a_text, .ref a_now, .ref a_before, .int g_undoMany, .ref a_read, .int g_spot, .ref a_first, .ref a_second, .ref a_sums, .ref a_other, .int g_step, .int g_coverMany, .ref a_grid, .ref a_order, .int g_leastSums, .int g_leastPart])), (a_sums, .inl (cZ, 241, .inl g_sums))] H → va_D A [(a_this, .inr (8, [.int g_length, .ref a_text, .ref a_now, .ref a_before, .int g_undoMany, .ref a_read, .int g_spot, .ref a_first, .ref a_second, .ref a_sums, .ref a_other, .int g_step, .int g_coverMany, .ref a_grid, .ref a_order, .int g_leastSums, .int g_leastPart])), (a_sums, .inl (cZ, 241, .inl g_sums))] → va_S A s.heap H locs → lv_has ls 8 [(3, .int x3), (4, .int x4), (5, .int x5)] → W p l e rmX8_smallest s m ([.ref a_this, .int q1, .int q2, .int q3] : List Value).toArray below meth c H locs 0 0 (MQ below (cQi D r0 A [(a_this, .inr (8, [.int g_length, .ref a_text, .ref a_now, .ref a_before, .int g_undoMany, .ref a_read, .int g_spot, .ref a_first, .ref a_second, .ref a_sums, .ref a_other, .int g_step, .int g_coverMany, .ref a_grid, .ref a_order, .int g_leastSums, .int g_leastPart])), (a_sums, .inl (cZ, 241, .inl v_sums))]) ([.ref a_this, .int q1, .int q2, .int q3] : List Value).toArray s 0 0 A) (F0 m 143 ls []) := by
    intro x3 x4 x5 g_sums H locs ls hf hP hD hS hl
    unfold bX8_smallest_143 at hf
    refine lv_iload_n hx hb dX8_smallest_143 rfl (lv_at hl 0 rfl) ?_
    refine lv_iconst (v := -1) hx hb dX8_smallest_144 (by decide) ?_
    refine lv_icmp_ne (tgt := 153) hx hb dX8_smallest_145 (by decide) (fun c1 => ?_) (fun c1 => ?_)
    · have hf := br_neg c1 hf
      refine lv_iload_n hx hb dX8_smallest_153 rfl (lv_at hl 0 rfl) ?_
      refine lv_bipush (v := -2) hx hb dX8_smallest_154 (by decide) ?_
      refine lv_icmp_ne (tgt := 164) hx hb dX8_smallest_156 (by decide) (fun c2 => ?_) (fun c2 => ?_)
      · have hf := br_neg c2 hf
        refine lv_bipush (v := -4) hx hb dX8_smallest_164 (by decide) ?_
        have hE : ((-4 : Int32), g_sums) = (r0, v_sums) := Option.some.inj hf
        simp only [Prod.mk.injEq] at hE
        obtain ⟨rfl, rfl⟩ := hE
        exact rtI hx hb hr hlk hP hD hS dX8_smallest_166
      · have hf := br_pos c2 hf
        refine lv_iload hx hb dX8_smallest_159 (lv_at hl 2 rfl) ?_
        refine lv_goto (tgt := 166) hx hb dX8_smallest_161 (by decide) ?_
        have hE : (x5, g_sums) = (r0, v_sums) := Option.some.inj hf
        simp only [Prod.mk.injEq] at hE
        obtain ⟨rfl, rfl⟩ := hE
        exact rtI hx hb hr hlk hP hD hS dX8_smallest_166
    · have hf := br_pos c1 hf
      refine lv_iload hx hb dX8_smallest_148 (lv_at hl 1 rfl) ?_
      refine lv_goto (tgt := 166) hx hb dX8_smallest_150 (by decide) ?_
      have hE : (x4, g_sums) = (r0, v_sums) := Option.some.inj hf
      simp only [Prod.mk.injEq] at hE
      obtain ⟨rfl, rfl⟩ := hE
      exact rtI hx hb hr hlk hP hD hS dX8_smallest_166
  have w173 : ∀ (x1 : Int32) (x2 : Int32) (x4 : Int32) (x6 : Int32) (x7 : Int32) (g_sums : Nat → Int32) (t : Int32 × (Nat → Int32)) (H : Heap) (locs : List Loc) (ls : Array Slot), run (sX8_smallest_173 x1 x2 x4) ((x6, x7, g_sums)) = some t → (fun z => z = (r0, v_sums)) t → va_P D vwCl [(a_this, .inr (8, [.int g_length, .ref a_text, .ref a_now, .ref a_before, .int g_undoMany, .ref a_read, .int g_spot, .ref a_first, .ref a_second, .ref a_sums, .ref a_other, .int g_step, .int g_coverMany, .ref a_grid, .ref a_order, .int g_leastSums, .int g_leastPart])), (a_sums, .inl (cZ, 241, .inl g_sums))] H → va_D A [(a_this, .inr (8, [.int g_length, .ref a_text, .ref a_now, .ref a_before, .int g_undoMany, .ref a_read, .int g_spot, .ref a_first, .ref a_second, .ref a_sums, .ref a_other, .int g_step, .int g_coverMany, .ref a_grid, .ref a_order, .int g_leastSums, .int g_leastPart])), (a_sums, .inl (cZ, 241, .inl g_sums))] → va_S A s.heap H locs → lv_has ls 8 [(0, .ref a_this), (1, .int x1), (2, .int x2), (4, .int x4), (6, .int x6), (7, .int x7)] → W p l e rmX8_smallest s m ([.ref a_this, .int q1, .int q2, .int q3] : List Value).toArray below meth c H locs 0 0 (MQ below (cQi D r0 A [(a_this, .inr (8, [.int g_length, .ref a_text, .ref a_now, .ref a_before, .int g_undoMany, .ref a_read, .int g_spot, .ref a_first, .ref a_second, .ref a_sums, .ref a_other, .int g_step, .int g_coverMany, .ref a_grid, .ref a_order, .int g_leastSums, .int g_leastPart])), (a_sums, .inl (cZ, 241, .inl v_sums))]) ([.ref a_this, .int q1, .int q2, .int q3] : List Value).toArray s 0 0 A) (F0 m 173 ls []) := by
    intro x1 x2 x4
    obtain ⟨F173, eF173⟩ : ∃ F : (Int32 × Int32 × (Nat → Int32)) → Prop, F = fun q => ∀ (H : Heap) (locs : List Loc) (ls : Array Slot), va_P D vwCl [(a_this, .inr (8, [.int g_length, .ref a_text, .ref a_now, .ref a_before, .int g_undoMany, .ref a_read, .int g_spot, .ref a_first, .ref a_second, .ref a_sums, .ref a_other, .int g_step, .int g_coverMany, .ref a_grid, .ref a_order, .int g_leastSums, .int g_leastPart])), (a_sums, .inl (cZ, 241, .inl q.2.2))] H → va_D A [(a_this, .inr (8, [.int g_length, .ref a_text, .ref a_now, .ref a_before, .int g_undoMany, .ref a_read, .int g_spot, .ref a_first, .ref a_second, .ref a_sums, .ref a_other, .int g_step, .int g_coverMany, .ref a_grid, .ref a_order, .int g_leastSums, .int g_leastPart])), (a_sums, .inl (cZ, 241, .inl q.2.2))] → va_S A s.heap H locs → lv_has ls 8 [(0, .ref a_this), (1, .int x1), (2, .int x2), (4, .int x4), (6, .int q.1), (7, .int q.2.1)] → W p l e rmX8_smallest s m ([.ref a_this, .int q1, .int q2, .int q3] : List Value).toArray below meth c H locs 0 0 (MQ below (cQi D r0 A [(a_this, .inr (8, [.int g_length, .ref a_text, .ref a_now, .ref a_before, .int g_undoMany, .ref a_read, .int g_spot, .ref a_first, .ref a_second, .ref a_sums, .ref a_other, .int g_step, .int g_coverMany, .ref a_grid, .ref a_order, .int g_leastSums, .int g_leastPart])), (a_sums, .inl (cZ, 241, .inl v_sums))]) ([.ref a_this, .int q1, .int q2, .int q3] : List Value).toArray s 0 0 A) (F0 m 173 ls []) := ⟨_, rfl⟩
    have key : ∀ (q : Int32 × Int32 × (Nat → Int32)) (t : Int32 × (Nat → Int32)), run (sX8_smallest_173 x1 x2 x4) q = some t → (fun z => z = (r0, v_sums)) t → F173 q := by
      refine loop_rule (sX8_smallest_173 x1 x2 x4) F173 (fun z => z = (r0, v_sums)) ?_
      intro q t hf hF
      have hF : (Sum.elim F173 (fun z => z = (r0, v_sums))) t := hF
      have w229 : ∀ (x7 : Int32) (k0 : Int32) (k1 : Int32) (g_sums : Nat → Int32) (t : (Int32 × Int32 × (Nat → Int32)) ⊕ (Int32 × (Nat → Int32))) (H : Heap) (locs : List Loc) (ls : Array Slot), bX8_smallest_229 x1 x2 x4 x7 k0 k1 g_sums = some t → (Sum.elim F173 (fun z => z = (r0, v_sums))) t → va_P D vwCl [(a_this, .inr (8, [.int g_length, .ref a_text, .ref a_now, .ref a_before, .int g_undoMany, .ref a_read, .int g_spot, .ref a_first, .ref a_second, .ref a_sums, .ref a_other, .int g_step, .int g_coverMany, .ref a_grid, .ref a_order, .int g_leastSums, .int g_leastPart])), (a_sums, .inl (cZ, 241, .inl g_sums))] H → va_D A [(a_this, .inr (8, [.int g_length, .ref a_text, .ref a_now, .ref a_before, .int g_undoMany, .ref a_read, .int g_spot, .ref a_first, .ref a_second, .ref a_sums, .ref a_other, .int g_step, .int g_coverMany, .ref a_grid, .ref a_order, .int g_leastSums, .int g_leastPart])), (a_sums, .inl (cZ, 241, .inl g_sums))] → va_S A s.heap H locs → lv_has ls 8 [(0, .ref a_this), (1, .int x1), (2, .int x2), (4, .int x4), (7, .int x7)] → W p l e rmX8_smallest s m ([.ref a_this, .int q1, .int q2, .int q3] : List Value).toArray below meth c H locs 0 0 (MQ below (cQi D r0 A [(a_this, .inr (8, [.int g_length, .ref a_text, .ref a_now, .ref a_before, .int g_undoMany, .ref a_read, .int g_spot, .ref a_first, .ref a_second, .ref a_sums, .ref a_other, .int g_step, .int g_coverMany, .ref a_grid, .ref a_order, .int g_leastSums, .int g_leastPart])), (a_sums, .inl (cZ, 241, .inl v_sums))]) ([.ref a_this, .int q1, .int q2, .int q3] : List Value).toArray s 0 0 A) (F0 m 229 ls [.int k1, .int k0]) := by
        intro x7 k0 k1 g_sums t H locs ls hf hF hP hD hS hl
        unfold bX8_smallest_229 at hf
        refine lv_isub hx hb dX8_smallest_229 ?_
        refine lv_topi (fun y3 ey3 => ?_)
        have hf := lt_some hf y3 ey3
        refine lv_istore (lv' := [(6, .int y3), (0, .ref a_this), (1, .int x1), (2, .int x2), (4, .int x4), (7, .int x7)]) hx hb dX8_smallest_230 hl (by decide) rfl (fun ls hl => ?_)
        obtain ⟨y4, ey4⟩ : ∃ z : Int32, z = x7 + (1 : Int32) := ⟨_, rfl⟩
        have hf := lt_some hf y4 ey4
        refine lv_iinc (v := y4) (lv' := [(7, .int y4), (6, .int y3), (0, .ref a_this), (1, .int x1), (2, .int x2), (4, .int x4)]) hx hb dX8_smallest_232 hl (k := 5) rfl (by rw [ey4]; rfl) (by decide) rfl (fun ls hl => ?_)
        refine lv_goto (tgt := 173) hx hb dX8_smallest_235 (by decide) ?_
        cases hf
        exact ((congrFun eF173 _).mp hF) H locs ls hP hD hS (lv_sub hl [2, 3, 4, 5, 1, 0] rfl)
      have w228 : ∀ (x7 : Int32) (k0 : Int32) (g_sums : Nat → Int32) (t : (Int32 × Int32 × (Nat → Int32)) ⊕ (Int32 × (Nat → Int32))) (H : Heap) (locs : List Loc) (ls : Array Slot), bX8_smallest_228 x1 x2 x4 x7 k0 g_sums = some t → (Sum.elim F173 (fun z => z = (r0, v_sums))) t → va_P D vwCl [(a_this, .inr (8, [.int g_length, .ref a_text, .ref a_now, .ref a_before, .int g_undoMany, .ref a_read, .int g_spot, .ref a_first, .ref a_second, .ref a_sums, .ref a_other, .int g_step, .int g_coverMany, .ref a_grid, .ref a_order, .int g_leastSums, .int g_leastPart])), (a_sums, .inl (cZ, 241, .inl g_sums))] H → va_D A [(a_this, .inr (8, [.int g_length, .ref a_text, .ref a_now, .ref a_before, .int g_undoMany, .ref a_read, .int g_spot, .ref a_first, .ref a_second, .ref a_sums, .ref a_other, .int g_step, .int g_coverMany, .ref a_grid, .ref a_order, .int g_leastSums, .int g_leastPart])), (a_sums, .inl (cZ, 241, .inl g_sums))] → va_S A s.heap H locs → lv_has ls 8 [(0, .ref a_this), (1, .int x1), (2, .int x2), (4, .int x4), (7, .int x7)] → W p l e rmX8_smallest s m ([.ref a_this, .int q1, .int q2, .int q3] : List Value).toArray below meth c H locs 0 0 (MQ below (cQi D r0 A [(a_this, .inr (8, [.int g_length, .ref a_text, .ref a_now, .ref a_before, .int g_undoMany, .ref a_read, .int g_spot, .ref a_first, .ref a_second, .ref a_sums, .ref a_other, .int g_step, .int g_coverMany, .ref a_grid, .ref a_order, .int g_leastSums, .int g_leastPart])), (a_sums, .inl (cZ, 241, .inl v_sums))]) ([.ref a_this, .int q1, .int q2, .int q3] : List Value).toArray s 0 0 A) (F0 m 228 ls [.int k0]) := by
        intro x7 k0 g_sums t H locs ls hf hF hP hD hS hl
        unfold bX8_smallest_228 at hf
        refine lv_iconst (v := 0) hx hb dX8_smallest_228 (by decide) ?_
        exact w229 x7 k0 (0 : Int32) g_sums _ H locs ls hf hF hP hD hS (lv_sub hl [0, 1, 2, 3, 4] rfl)
      have w200 : ∀ (x6 : Int32) (x7 : Int32) (g_sums : Nat → Int32) (t : (Int32 × Int32 × (Nat → Int32)) ⊕ (Int32 × (Nat → Int32))) (H : Heap) (locs : List Loc) (ls : Array Slot), bX8_smallest_200 x1 x2 x4 x6 x7 g_sums = some t → (Sum.elim F173 (fun z => z = (r0, v_sums))) t → va_P D vwCl [(a_this, .inr (8, [.int g_length, .ref a_text, .ref a_now, .ref a_before, .int g_undoMany, .ref a_read, .int g_spot, .ref a_first, .ref a_second, .ref a_sums, .ref a_other, .int g_step, .int g_coverMany, .ref a_grid, .ref a_order, .int g_leastSums, .int g_leastPart])), (a_sums, .inl (cZ, 241, .inl g_sums))] H → va_D A [(a_this, .inr (8, [.int g_length, .ref a_text, .ref a_now, .ref a_before, .int g_undoMany, .ref a_read, .int g_spot, .ref a_first, .ref a_second, .ref a_sums, .ref a_other, .int g_step, .int g_coverMany, .ref a_grid, .ref a_order, .int g_leastSums, .int g_leastPart])), (a_sums, .inl (cZ, 241, .inl g_sums))] → va_S A s.heap H locs → lv_has ls 8 [(0, .ref a_this), (1, .int x1), (2, .int x2), (4, .int x4), (6, .int x6), (7, .int x7)] → W p l e rmX8_smallest s m ([.ref a_this, .int q1, .int q2, .int q3] : List Value).toArray below meth c H locs 0 0 (MQ below (cQi D r0 A [(a_this, .inr (8, [.int g_length, .ref a_text, .ref a_now, .ref a_before, .int g_undoMany, .ref a_read, .int g_spot, .ref a_first, .ref a_second, .ref a_sums, .ref a_other, .int g_step, .int g_coverMany, .ref a_grid, .ref a_order, .int g_leastSums, .int g_leastPart])), (a_sums, .inl (cZ, 241, .inl v_sums))]) ([.ref a_this, .int q1, .int q2, .int q3] : List Value).toArray s 0 0 A) (F0 m 200 ls []) := by
        intro x6 x7 g_sums t H locs ls hf hF hP hD hS hl
        unfold bX8_smallest_200 at hf
        refine lv_iload hx hb dX8_smallest_200 (lv_at hl 4 rfl) ?_
        refine lv_iload hx hb dX8_smallest_202 (lv_at hl 5 rfl) ?_
        refine lv_iload_n hx hb dX8_smallest_204 rfl (lv_at hl 1 rfl) ?_
        refine lv_iload_n hx hb dX8_smallest_205 rfl (lv_at hl 2 rfl) ?_
        obtain ⟨u5, hu5, hf⟩ := bd_some hf
        refine caSI (rest := [.int x6]) (As := [.int x7, .int x1, .int x2]) (wr := [(a_this, .inr (8, [.int g_length, .ref a_text, .ref a_now, .ref a_before, .int g_undoMany, .ref a_read, .int g_spot, .ref a_first, .ref a_second, .ref a_sums, .ref a_other, .int g_step, .int g_coverMany, .ref a_grid, .ref a_order, .int g_leastSums, .int g_leastPart])), (a_sums, .inl (cZ, 241, .inl g_sums))]) (wo := [(a_this, .inr (8, [.int g_length, .ref a_text, .ref a_now, .ref a_before, .int g_undoMany, .ref a_read, .int g_spot, .ref a_first, .ref a_second, .ref a_sums, .ref a_other, .int g_step, .int g_coverMany, .ref a_grid, .ref a_order, .int g_leastSums, .int g_leastPart])), (a_sums, .inl (cZ, 241, .inl g_sums))]) ⟨hx, hb, hml, hown, hts⟩ hN hP hD hS hA (cX8_isOfSize_ct l D cI cL cC cZ x7 x1 x2 u5 hu5) z1 [] [0, 1] [0, 1] rfl (by decide) rfl (by decide) (by decide) rfl (by decide) rfl hl.1 rfl (Nat.le_of_ble_eq_true rfl) dX8_smallest_206 ⟨Nat.zero_le _, Nat.zero_le _⟩ (fun H locs hP hD hS => ?_)
        refine lv_if_eq (tgt := 228) hx hb dX8_smallest_209 (by decide) (fun c6 => ?_) (fun c6 => ?_)
        · have hf := br_pos c6 hf
          exact w228 x7 x6 g_sums _ H locs ls hf hF hP hD hS (lv_sub hl [0, 1, 2, 3, 5] rfl)
        · have hf := br_neg c6 hf
          refine lv_aload_n hx hb dX8_smallest_212 rfl (lv_at hl 0 rfl) ?_
          refine lv_iload hx hb dX8_smallest_213 (lv_at hl 5 rfl) ?_
          refine lv_iload_n hx hb dX8_smallest_215 rfl (lv_at hl 2 rfl) ?_
          obtain ⟨u7, hu7, hf⟩ := bd_some hf
          refine caVI (rest := [.int x6]) (As := [.int x7, .int x2]) (wr := []) (wo := [(a_this, .inr (8, [.int g_length, .ref a_text, .ref a_now, .ref a_before, .int g_undoMany, .ref a_read, .int g_spot, .ref a_first, .ref a_second, .ref a_sums, .ref a_other, .int g_step, .int g_coverMany, .ref a_grid, .ref a_order, .int g_leastSums, .int g_leastPart])), (a_sums, .inl (cZ, 241, .inl u7.2))]) ⟨hx, hb, hml, hown, hts⟩ hN hP hD hS hA (cX8_ownSums_ct l D cI cL cC cZ a_this a_text a_now a_before a_read a_first a_second a_sums a_other a_grid a_order g_length g_undoMany g_spot g_step g_coverMany g_leastSums g_leastPart g_sums x7 x2 u7.1 u7.2 hu7) z2 0 8 rfl rfl [0, 1] [] [0, 1] rfl (by decide) rfl (by decide) (by decide) rfl (by decide) rfl hl.1 rfl (Nat.le_of_ble_eq_true rfl) dX8_smallest_216 ⟨Nat.zero_le _, Nat.zero_le _⟩ (fun H locs hP hD hS => ?_)
          refine lv_iload hx hb dX8_smallest_219 (lv_at hl 3 rfl) ?_
          refine lv_icmp_ne (tgt := 228) hx hb dX8_smallest_221 (by decide) (fun c8 => ?_) (fun c8 => ?_)
          · have hf := br_neg c8 hf
            exact w228 x7 x6 u7.2 _ H locs ls hf hF hP hD hS (lv_sub hl [0, 1, 2, 3, 5] rfl)
          · have hf := br_pos c8 hf
            refine lv_iconst (v := 1) hx hb dX8_smallest_224 (by decide) ?_
            refine lv_goto (tgt := 229) hx hb dX8_smallest_225 (by decide) ?_
            exact w229 x7 x6 (1 : Int32) u7.2 _ H locs ls hf hF hP hD hS (lv_sub hl [0, 1, 2, 3, 5] rfl)
      rw [eF173]
      obtain ⟨x6, x7, g_sums⟩ := q
      intro H locs ls hP hD hS hl
      have hP : va_P D vwCl [(a_this, .inr (8, [.int g_length, .ref a_text, .ref a_now, .ref a_before, .int g_undoMany, .ref a_read, .int g_spot, .ref a_first, .ref a_second, .ref a_sums, .ref a_other, .int g_step, .int g_coverMany, .ref a_grid, .ref a_order, .int g_leastSums, .int g_leastPart])), (a_sums, .inl (cZ, 241, .inl g_sums))] H := hP
      have hD : va_D A [(a_this, .inr (8, [.int g_length, .ref a_text, .ref a_now, .ref a_before, .int g_undoMany, .ref a_read, .int g_spot, .ref a_first, .ref a_second, .ref a_sums, .ref a_other, .int g_step, .int g_coverMany, .ref a_grid, .ref a_order, .int g_leastSums, .int g_leastPart])), (a_sums, .inl (cZ, 241, .inl g_sums))] := hD
      have hl : lv_has ls 8 [(0, .ref a_this), (1, .int x1), (2, .int x2), (4, .int x4), (6, .int x6), (7, .int x7)] := hl
      have hf : bX8_smallest_173 x1 x2 x4 x6 x7 g_sums = some t := hf
      unfold bX8_smallest_173 at hf
      refine lv_iload hx hb dX8_smallest_173 (lv_at hl 4 rfl) ?_
      refine lv_if_gt (tgt := 200) hx hb dX8_smallest_175 (by decide) (fun c9 => ?_) (fun c9 => ?_)
      · have hf := br_pos c9 hf
        exact w200 x6 x7 g_sums _ H locs ls hf hF hP hD hS (lv_sub hl [0, 1, 2, 3, 4, 5] rfl)
      · have hf := br_neg c9 hf
        refine lv_iload hx hb dX8_smallest_178 (lv_at hl 5 rfl) ?_
        refine lv_iload_n hx hb dX8_smallest_180 rfl (lv_at hl 1 rfl) ?_
        refine lv_iload_n hx hb dX8_smallest_181 rfl (lv_at hl 2 rfl) ?_
        obtain ⟨u10, hu10, hf⟩ := bd_some hf
        refine caSI (rest := []) (As := [.int x7, .int x1, .int x2]) (wr := [(a_this, .inr (8, [.int g_length, .ref a_text, .ref a_now, .ref a_before, .int g_undoMany, .ref a_read, .int g_spot, .ref a_first, .ref a_second, .ref a_sums, .ref a_other, .int g_step, .int g_coverMany, .ref a_grid, .ref a_order, .int g_leastSums, .int g_leastPart])), (a_sums, .inl (cZ, 241, .inl g_sums))]) (wo := [(a_this, .inr (8, [.int g_length, .ref a_text, .ref a_now, .ref a_before, .int g_undoMany, .ref a_read, .int g_spot, .ref a_first, .ref a_second, .ref a_sums, .ref a_other, .int g_step, .int g_coverMany, .ref a_grid, .ref a_order, .int g_leastSums, .int g_leastPart])), (a_sums, .inl (cZ, 241, .inl g_sums))]) ⟨hx, hb, hml, hown, hts⟩ hN hP hD hS hA (cX8_isOfSize_ct l D cI cL cC cZ x7 x1 x2 u10 hu10) z1 [] [0, 1] [0, 1] rfl (by decide) rfl (by decide) (by decide) rfl (by decide) rfl hl.1 rfl (Nat.le_of_ble_eq_true rfl) dX8_smallest_182 ⟨Nat.zero_le _, Nat.zero_le _⟩ (fun H locs hP hD hS => ?_)
        refine lv_if_eq (tgt := 200) hx hb dX8_smallest_185 (by decide) (fun c11 => ?_) (fun c11 => ?_)
        · have hf := br_pos c11 hf
          exact w200 x6 x7 g_sums _ H locs ls hf hF hP hD hS (lv_sub hl [0, 1, 2, 3, 4, 5] rfl)
        · have hf := br_neg c11 hf
          refine lv_aload_n hx hb dX8_smallest_188 rfl (lv_at hl 0 rfl) ?_
          refine lv_iload hx hb dX8_smallest_189 (lv_at hl 5 rfl) ?_
          refine lv_iload_n hx hb dX8_smallest_191 rfl (lv_at hl 2 rfl) ?_
          obtain ⟨u12, hu12, hf⟩ := bd_some hf
          refine caVI (rest := []) (As := [.int x7, .int x2]) (wr := []) (wo := [(a_this, .inr (8, [.int g_length, .ref a_text, .ref a_now, .ref a_before, .int g_undoMany, .ref a_read, .int g_spot, .ref a_first, .ref a_second, .ref a_sums, .ref a_other, .int g_step, .int g_coverMany, .ref a_grid, .ref a_order, .int g_leastSums, .int g_leastPart])), (a_sums, .inl (cZ, 241, .inl u12.2))]) ⟨hx, hb, hml, hown, hts⟩ hN hP hD hS hA (cX8_ownSums_ct l D cI cL cC cZ a_this a_text a_now a_before a_read a_first a_second a_sums a_other a_grid a_order g_length g_undoMany g_spot g_step g_coverMany g_leastSums g_leastPart g_sums x7 x2 u12.1 u12.2 hu12) z2 0 8 rfl rfl [0, 1] [] [0, 1] rfl (by decide) rfl (by decide) (by decide) rfl (by decide) rfl hl.1 rfl (Nat.le_of_ble_eq_true rfl) dX8_smallest_192 ⟨Nat.zero_le _, Nat.zero_le _⟩ (fun H locs hP hD hS => ?_)
          refine lv_iload hx hb dX8_smallest_195 (lv_at hl 3 rfl) ?_
          refine lv_icmp_eq (tgt := 238) hx hb dX8_smallest_197 (by decide) (fun c13 => ?_) (fun c13 => ?_)
          · have hf := br_pos c13 hf
            refine lv_iload hx hb dX8_smallest_238 (lv_at hl 5 rfl) ?_
            cases hf
            have hE : (x7, u12.2) = (r0, v_sums) := hF
            simp only [Prod.mk.injEq] at hE
            obtain ⟨rfl, rfl⟩ := hE
            exact rtI hx hb hr hlk hP hD hS dX8_smallest_240
          · have hf := br_neg c13 hf
            exact w200 x6 x7 u12.2 _ H locs ls hf hF hP hD hS (lv_sub hl [0, 1, 2, 3, 4, 5] rfl)
    intro x6 x7 g_sums t H locs ls hf hF hP hD hS hl
    exact ((congrFun eF173 _).mp (key ((x6, x7, g_sums)) t hf hF)) H locs ls hP hD hS hl
  have w55 : ∀ (x1 : Int32) (x2 : Int32) (x3 : Int32) (x4 : Int32) (x5 : Int32) (x6 : Int32) (g_sums : Nat → Int32) (t : Int32 × (Nat → Int32)) (H : Heap) (locs : List Loc) (ls : Array Slot), run (sX8_smallest_55 x1 x2 x3) ((x4, x5, x6, g_sums)) = some t → (fun z => z = (r0, v_sums)) t → va_P D vwCl [(a_this, .inr (8, [.int g_length, .ref a_text, .ref a_now, .ref a_before, .int g_undoMany, .ref a_read, .int g_spot, .ref a_first, .ref a_second, .ref a_sums, .ref a_other, .int g_step, .int g_coverMany, .ref a_grid, .ref a_order, .int g_leastSums, .int g_leastPart])), (a_sums, .inl (cZ, 241, .inl g_sums))] H → va_D A [(a_this, .inr (8, [.int g_length, .ref a_text, .ref a_now, .ref a_before, .int g_undoMany, .ref a_read, .int g_spot, .ref a_first, .ref a_second, .ref a_sums, .ref a_other, .int g_step, .int g_coverMany, .ref a_grid, .ref a_order, .int g_leastSums, .int g_leastPart])), (a_sums, .inl (cZ, 241, .inl g_sums))] → va_S A s.heap H locs → lv_has ls 8 [(0, .ref a_this), (1, .int x1), (2, .int x2), (3, .int x3), (4, .int x4), (5, .int x5), (6, .int x6)] → W p l e rmX8_smallest s m ([.ref a_this, .int q1, .int q2, .int q3] : List Value).toArray below meth c H locs 0 0 (MQ below (cQi D r0 A [(a_this, .inr (8, [.int g_length, .ref a_text, .ref a_now, .ref a_before, .int g_undoMany, .ref a_read, .int g_spot, .ref a_first, .ref a_second, .ref a_sums, .ref a_other, .int g_step, .int g_coverMany, .ref a_grid, .ref a_order, .int g_leastSums, .int g_leastPart])), (a_sums, .inl (cZ, 241, .inl v_sums))]) ([.ref a_this, .int q1, .int q2, .int q3] : List Value).toArray s 0 0 A) (F0 m 55 ls []) := by
    intro x1 x2 x3
    obtain ⟨F55, eF55⟩ : ∃ F : (Int32 × Int32 × Int32 × (Nat → Int32)) → Prop, F = fun q => ∀ (H : Heap) (locs : List Loc) (ls : Array Slot), va_P D vwCl [(a_this, .inr (8, [.int g_length, .ref a_text, .ref a_now, .ref a_before, .int g_undoMany, .ref a_read, .int g_spot, .ref a_first, .ref a_second, .ref a_sums, .ref a_other, .int g_step, .int g_coverMany, .ref a_grid, .ref a_order, .int g_leastSums, .int g_leastPart])), (a_sums, .inl (cZ, 241, .inl q.2.2.2))] H → va_D A [(a_this, .inr (8, [.int g_length, .ref a_text, .ref a_now, .ref a_before, .int g_undoMany, .ref a_read, .int g_spot, .ref a_first, .ref a_second, .ref a_sums, .ref a_other, .int g_step, .int g_coverMany, .ref a_grid, .ref a_order, .int g_leastSums, .int g_leastPart])), (a_sums, .inl (cZ, 241, .inl q.2.2.2))] → va_S A s.heap H locs → lv_has ls 8 [(0, .ref a_this), (1, .int x1), (2, .int x2), (3, .int x3), (4, .int q.1), (5, .int q.2.1), (6, .int q.2.2.1)] → W p l e rmX8_smallest s m ([.ref a_this, .int q1, .int q2, .int q3] : List Value).toArray below meth c H locs 0 0 (MQ below (cQi D r0 A [(a_this, .inr (8, [.int g_length, .ref a_text, .ref a_now, .ref a_before, .int g_undoMany, .ref a_read, .int g_spot, .ref a_first, .ref a_second, .ref a_sums, .ref a_other, .int g_step, .int g_coverMany, .ref a_grid, .ref a_order, .int g_leastSums, .int g_leastPart])), (a_sums, .inl (cZ, 241, .inl v_sums))]) ([.ref a_this, .int q1, .int q2, .int q3] : List Value).toArray s 0 0 A) (F0 m 55 ls []) := ⟨_, rfl⟩
    have key : ∀ (q : Int32 × Int32 × Int32 × (Nat → Int32)) (t : Int32 × (Nat → Int32)), run (sX8_smallest_55 x1 x2 x3) q = some t → (fun z => z = (r0, v_sums)) t → F55 q := by
      refine loop_rule (sX8_smallest_55 x1 x2 x3) F55 (fun z => z = (r0, v_sums)) ?_
      intro q t hf hF
      have hF : (Sum.elim F55 (fun z => z = (r0, v_sums))) t := hF
      have w127 : ∀ (x4 : Int32) (x5 : Int32) (x6 : Int32) (g_sums : Nat → Int32) (t : (Int32 × Int32 × Int32 × (Nat → Int32)) ⊕ (Int32 × (Nat → Int32))) (H : Heap) (locs : List Loc) (ls : Array Slot), bX8_smallest_127 x1 x2 x3 x4 x5 x6 g_sums = some t → (Sum.elim F55 (fun z => z = (r0, v_sums))) t → va_P D vwCl [(a_this, .inr (8, [.int g_length, .ref a_text, .ref a_now, .ref a_before, .int g_undoMany, .ref a_read, .int g_spot, .ref a_first, .ref a_second, .ref a_sums, .ref a_other, .int g_step, .int g_coverMany, .ref a_grid, .ref a_order, .int g_leastSums, .int g_leastPart])), (a_sums, .inl (cZ, 241, .inl g_sums))] H → va_D A [(a_this, .inr (8, [.int g_length, .ref a_text, .ref a_now, .ref a_before, .int g_undoMany, .ref a_read, .int g_spot, .ref a_first, .ref a_second, .ref a_sums, .ref a_other, .int g_step, .int g_coverMany, .ref a_grid, .ref a_order, .int g_leastSums, .int g_leastPart])), (a_sums, .inl (cZ, 241, .inl g_sums))] → va_S A s.heap H locs → lv_has ls 8 [(0, .ref a_this), (1, .int x1), (2, .int x2), (3, .int x3), (4, .int x4), (5, .int x5), (6, .int x6)] → W p l e rmX8_smallest s m ([.ref a_this, .int q1, .int q2, .int q3] : List Value).toArray below meth c H locs 0 0 (MQ below (cQi D r0 A [(a_this, .inr (8, [.int g_length, .ref a_text, .ref a_now, .ref a_before, .int g_undoMany, .ref a_read, .int g_spot, .ref a_first, .ref a_second, .ref a_sums, .ref a_other, .int g_step, .int g_coverMany, .ref a_grid, .ref a_order, .int g_leastSums, .int g_leastPart])), (a_sums, .inl (cZ, 241, .inl v_sums))]) ([.ref a_this, .int q1, .int q2, .int q3] : List Value).toArray s 0 0 A) (F0 m 127 ls []) := by
        intro x4 x5 x6 g_sums t H locs ls hf hF hP hD hS hl
        unfold bX8_smallest_127 at hf
        obtain ⟨y14, ey14⟩ : ∃ z : Int32, z = x6 + (1 : Int32) := ⟨_, rfl⟩
        have hf := lt_some hf y14 ey14
        refine lv_iinc (v := y14) (lv' := [(6, .int y14), (0, .ref a_this), (1, .int x1), (2, .int x2), (3, .int x3), (4, .int x4), (5, .int x5)]) hx hb dX8_smallest_127 hl (k := 6) rfl (by rw [ey14]; rfl) (by decide) rfl (fun ls hl => ?_)
        refine lv_goto (tgt := 55) hx hb dX8_smallest_130 (by decide) ?_
        cases hf
        exact ((congrFun eF55 _).mp hF) H locs ls hP hD hS (lv_sub hl [1, 2, 3, 4, 5, 6, 0] rfl)
      have w125 : ∀ (x5 : Int32) (x6 : Int32) (k0 : Int32) (g_sums : Nat → Int32) (t : (Int32 × Int32 × Int32 × (Nat → Int32)) ⊕ (Int32 × (Nat → Int32))) (H : Heap) (locs : List Loc) (ls : Array Slot), bX8_smallest_125 x1 x2 x3 x5 x6 k0 g_sums = some t → (Sum.elim F55 (fun z => z = (r0, v_sums))) t → va_P D vwCl [(a_this, .inr (8, [.int g_length, .ref a_text, .ref a_now, .ref a_before, .int g_undoMany, .ref a_read, .int g_spot, .ref a_first, .ref a_second, .ref a_sums, .ref a_other, .int g_step, .int g_coverMany, .ref a_grid, .ref a_order, .int g_leastSums, .int g_leastPart])), (a_sums, .inl (cZ, 241, .inl g_sums))] H → va_D A [(a_this, .inr (8, [.int g_length, .ref a_text, .ref a_now, .ref a_before, .int g_undoMany, .ref a_read, .int g_spot, .ref a_first, .ref a_second, .ref a_sums, .ref a_other, .int g_step, .int g_coverMany, .ref a_grid, .ref a_order, .int g_leastSums, .int g_leastPart])), (a_sums, .inl (cZ, 241, .inl g_sums))] → va_S A s.heap H locs → lv_has ls 8 [(0, .ref a_this), (1, .int x1), (2, .int x2), (3, .int x3), (5, .int x5), (6, .int x6)] → W p l e rmX8_smallest s m ([.ref a_this, .int q1, .int q2, .int q3] : List Value).toArray below meth c H locs 0 0 (MQ below (cQi D r0 A [(a_this, .inr (8, [.int g_length, .ref a_text, .ref a_now, .ref a_before, .int g_undoMany, .ref a_read, .int g_spot, .ref a_first, .ref a_second, .ref a_sums, .ref a_other, .int g_step, .int g_coverMany, .ref a_grid, .ref a_order, .int g_leastSums, .int g_leastPart])), (a_sums, .inl (cZ, 241, .inl v_sums))]) ([.ref a_this, .int q1, .int q2, .int q3] : List Value).toArray s 0 0 A) (F0 m 125 ls [.int k0]) := by
        intro x5 x6 k0 g_sums t H locs ls hf hF hP hD hS hl
        unfold bX8_smallest_125 at hf
        refine lv_istore (lv' := [(4, .int k0), (0, .ref a_this), (1, .int x1), (2, .int x2), (3, .int x3), (5, .int x5), (6, .int x6)]) hx hb dX8_smallest_125 hl (by decide) rfl (fun ls hl => ?_)
        exact w127 k0 x5 x6 g_sums _ H locs ls hf hF hP hD hS (lv_sub hl [1, 2, 3, 4, 0, 5, 6] rfl)
      have w109 : ∀ (x4 : Int32) (x6 : Int32) (x7 : Int32) (k0 : Int32) (g_sums : Nat → Int32) (t : (Int32 × Int32 × Int32 × (Nat → Int32)) ⊕ (Int32 × (Nat → Int32))) (H : Heap) (locs : List Loc) (ls : Array Slot), bX8_smallest_109 x1 x2 x3 x4 x6 x7 k0 g_sums = some t → (Sum.elim F55 (fun z => z = (r0, v_sums))) t → va_P D vwCl [(a_this, .inr (8, [.int g_length, .ref a_text, .ref a_now, .ref a_before, .int g_undoMany, .ref a_read, .int g_spot, .ref a_first, .ref a_second, .ref a_sums, .ref a_other, .int g_step, .int g_coverMany, .ref a_grid, .ref a_order, .int g_leastSums, .int g_leastPart])), (a_sums, .inl (cZ, 241, .inl g_sums))] H → va_D A [(a_this, .inr (8, [.int g_length, .ref a_text, .ref a_now, .ref a_before, .int g_undoMany, .ref a_read, .int g_spot, .ref a_first, .ref a_second, .ref a_sums, .ref a_other, .int g_step, .int g_coverMany, .ref a_grid, .ref a_order, .int g_leastSums, .int g_leastPart])), (a_sums, .inl (cZ, 241, .inl g_sums))] → va_S A s.heap H locs → lv_has ls 8 [(0, .ref a_this), (1, .int x1), (2, .int x2), (3, .int x3), (4, .int x4), (6, .int x6), (7, .int x7)] → W p l e rmX8_smallest s m ([.ref a_this, .int q1, .int q2, .int q3] : List Value).toArray below meth c H locs 0 0 (MQ below (cQi D r0 A [(a_this, .inr (8, [.int g_length, .ref a_text, .ref a_now, .ref a_before, .int g_undoMany, .ref a_read, .int g_spot, .ref a_first, .ref a_second, .ref a_sums, .ref a_other, .int g_step, .int g_coverMany, .ref a_grid, .ref a_order, .int g_leastSums, .int g_leastPart])), (a_sums, .inl (cZ, 241, .inl v_sums))]) ([.ref a_this, .int q1, .int q2, .int q3] : List Value).toArray s 0 0 A) (F0 m 109 ls [.int k0]) := by
        intro x4 x6 x7 k0 g_sums t H locs ls hf hF hP hD hS hl
        unfold bX8_smallest_109 at hf
        refine lv_istore (lv' := [(5, .int k0), (0, .ref a_this), (1, .int x1), (2, .int x2), (3, .int x3), (4, .int x4), (6, .int x6), (7, .int x7)]) hx hb dX8_smallest_109 hl (by decide) rfl (fun ls hl => ?_)
        refine lv_iload hx hb dX8_smallest_111 (lv_at hl 7 rfl) ?_
        refine lv_iload hx hb dX8_smallest_113 (lv_at hl 5 rfl) ?_
        refine lv_icmp_ge (tgt := 123) hx hb dX8_smallest_115 (by decide) (fun c15 => ?_) (fun c15 => ?_)
        · have hf := br_pos c15 hf
          refine lv_iload hx hb dX8_smallest_123 (lv_at hl 5 rfl) ?_
          exact w125 k0 x6 x4 g_sums _ H locs ls hf hF hP hD hS (lv_sub hl [1, 2, 3, 4, 0, 6] rfl)
        · have hf := br_neg c15 hf
          refine lv_iload hx hb dX8_smallest_118 (lv_at hl 7 rfl) ?_
          refine lv_goto (tgt := 125) hx hb dX8_smallest_120 (by decide) ?_
          exact w125 k0 x6 x7 g_sums _ H locs ls hf hF hP hD hS (lv_sub hl [1, 2, 3, 4, 0, 6] rfl)
      rw [eF55]
      obtain ⟨x4, x5, x6, g_sums⟩ := q
      intro H locs ls hP hD hS hl
      have hP : va_P D vwCl [(a_this, .inr (8, [.int g_length, .ref a_text, .ref a_now, .ref a_before, .int g_undoMany, .ref a_read, .int g_spot, .ref a_first, .ref a_second, .ref a_sums, .ref a_other, .int g_step, .int g_coverMany, .ref a_grid, .ref a_order, .int g_leastSums, .int g_leastPart])), (a_sums, .inl (cZ, 241, .inl g_sums))] H := hP
      have hD : va_D A [(a_this, .inr (8, [.int g_length, .ref a_text, .ref a_now, .ref a_before, .int g_undoMany, .ref a_read, .int g_spot, .ref a_first, .ref a_second, .ref a_sums, .ref a_other, .int g_step, .int g_coverMany, .ref a_grid, .ref a_order, .int g_leastSums, .int g_leastPart])), (a_sums, .inl (cZ, 241, .inl g_sums))] := hD
      have hl : lv_has ls 8 [(0, .ref a_this), (1, .int x1), (2, .int x2), (3, .int x3), (4, .int x4), (5, .int x5), (6, .int x6)] := hl
      have hf : bX8_smallest_55 x1 x2 x3 x4 x5 x6 g_sums = some t := hf
      unfold bX8_smallest_55 at hf
      refine lv_iload hx hb dX8_smallest_55 (lv_at hl 6 rfl) ?_
      refine lv_iconst (v := 2) hx hb dX8_smallest_57 (by decide) ?_
      refine lv_iload_n hx hb dX8_smallest_58 rfl (lv_at hl 2 rfl) ?_
      refine lv_ishl hx hb dX8_smallest_59 ?_
      refine lv_icmp_ge (tgt := 133) hx hb dX8_smallest_60 (by decide) (fun c16 => ?_) (fun c16 => ?_)
      · have hf := br_pos c16 hf
        refine lv_iload_n hx hb dX8_smallest_133 rfl (lv_at hl 3 rfl) ?_
        refine lv_if_lt (tgt := 143) hx hb dX8_smallest_134 (by decide) (fun c17 => ?_) (fun c17 => ?_)
        · have hf := br_pos c17 hf
          obtain ⟨t18, hf, hF⟩ := ml_fin hf hF
          have hF : t18 = (r0, v_sums) := hF
          rw [hF] at hf
          exact w143 x3 x4 x5 g_sums H locs ls hf hP hD hS (lv_sub hl [3, 4, 5] rfl)
        · have hf := br_neg c17 hf
          refine lv_iload_n hx hb dX8_smallest_137 rfl (lv_at hl 3 rfl) ?_
          refine lv_iload hx hb dX8_smallest_138 (lv_at hl 5 rfl) ?_
          refine lv_icmp_lt (tgt := 167) hx hb dX8_smallest_140 (by decide) (fun c19 => ?_) (fun c19 => ?_)
          · have hf := br_pos c19 hf
            refine lv_iload_n hx hb dX8_smallest_167 rfl (lv_at hl 3 rfl) ?_
            refine lv_istore (lv' := [(6, .int x3), (0, .ref a_this), (1, .int x1), (2, .int x2), (3, .int x3), (4, .int x4), (5, .int x5)]) hx hb dX8_smallest_168 hl (by decide) rfl (fun ls hl => ?_)
            refine lv_iconst (v := 1) hx hb dX8_smallest_170 (by decide) ?_
            refine lv_istore (lv' := [(7, .int (1 : Int32)), (6, .int x3), (0, .ref a_this), (1, .int x1), (2, .int x2), (3, .int x3), (4, .int x4), (5, .int x5)]) hx hb dX8_smallest_171 hl (by decide) rfl (fun ls hl => ?_)
            obtain ⟨t20, hf, hF⟩ := ml_fin hf hF
            have hF : t20 = (r0, v_sums) := hF
            rw [hF] at hf
            exact w173 x1 x2 x4 x3 (1 : Int32) g_sums (r0, v_sums) H locs ls hf rfl hP hD hS (lv_sub hl [2, 3, 4, 6, 1, 0] rfl)
          · have hf := br_neg c19 hf
            obtain ⟨t21, hf, hF⟩ := ml_fin hf hF
            have hF : t21 = (r0, v_sums) := hF
            rw [hF] at hf
            exact w143 x3 x4 x5 g_sums H locs ls hf hP hD hS (lv_sub hl [3, 4, 5] rfl)
      · have hf := br_neg c16 hf
        refine lv_iload hx hb dX8_smallest_63 (lv_at hl 6 rfl) ?_
        refine lv_iload_n hx hb dX8_smallest_65 rfl (lv_at hl 1 rfl) ?_
        refine lv_iload_n hx hb dX8_smallest_66 rfl (lv_at hl 2 rfl) ?_
        obtain ⟨u22, hu22, hf⟩ := bd_some hf
        refine caSI (rest := []) (As := [.int x6, .int x1, .int x2]) (wr := [(a_this, .inr (8, [.int g_length, .ref a_text, .ref a_now, .ref a_before, .int g_undoMany, .ref a_read, .int g_spot, .ref a_first, .ref a_second, .ref a_sums, .ref a_other, .int g_step, .int g_coverMany, .ref a_grid, .ref a_order, .int g_leastSums, .int g_leastPart])), (a_sums, .inl (cZ, 241, .inl g_sums))]) (wo := [(a_this, .inr (8, [.int g_length, .ref a_text, .ref a_now, .ref a_before, .int g_undoMany, .ref a_read, .int g_spot, .ref a_first, .ref a_second, .ref a_sums, .ref a_other, .int g_step, .int g_coverMany, .ref a_grid, .ref a_order, .int g_leastSums, .int g_leastPart])), (a_sums, .inl (cZ, 241, .inl g_sums))]) ⟨hx, hb, hml, hown, hts⟩ hN hP hD hS hA (cX8_isOfSize_ct l D cI cL cC cZ x6 x1 x2 u22 hu22) z1 [] [0, 1] [0, 1] rfl (by decide) rfl (by decide) (by decide) rfl (by decide) rfl hl.1 rfl (Nat.le_of_ble_eq_true rfl) dX8_smallest_67 ⟨Nat.zero_le _, Nat.zero_le _⟩ (fun H locs hP hD hS => ?_)
        refine lv_if_eq (tgt := 127) hx hb dX8_smallest_70 (by decide) (fun c23 => ?_) (fun c23 => ?_)
        · have hf := br_pos c23 hf
          exact w127 x4 x5 x6 g_sums _ H locs ls hf hF hP hD hS (lv_sub hl [0, 1, 2, 3, 4, 5, 6] rfl)
        · have hf := br_neg c23 hf
          refine lv_aload_n hx hb dX8_smallest_73 rfl (lv_at hl 0 rfl) ?_
          refine lv_iload hx hb dX8_smallest_74 (lv_at hl 6 rfl) ?_
          refine lv_iload_n hx hb dX8_smallest_76 rfl (lv_at hl 2 rfl) ?_
          obtain ⟨u24, hu24, hf⟩ := bd_some hf
          refine caVI (rest := []) (As := [.int x6, .int x2]) (wr := []) (wo := [(a_this, .inr (8, [.int g_length, .ref a_text, .ref a_now, .ref a_before, .int g_undoMany, .ref a_read, .int g_spot, .ref a_first, .ref a_second, .ref a_sums, .ref a_other, .int g_step, .int g_coverMany, .ref a_grid, .ref a_order, .int g_leastSums, .int g_leastPart])), (a_sums, .inl (cZ, 241, .inl u24.2))]) ⟨hx, hb, hml, hown, hts⟩ hN hP hD hS hA (cX8_ownSums_ct l D cI cL cC cZ a_this a_text a_now a_before a_read a_first a_second a_sums a_other a_grid a_order g_length g_undoMany g_spot g_step g_coverMany g_leastSums g_leastPart g_sums x6 x2 u24.1 u24.2 hu24) z2 0 8 rfl rfl [0, 1] [] [0, 1] rfl (by decide) rfl (by decide) (by decide) rfl (by decide) rfl hl.1 rfl (Nat.le_of_ble_eq_true rfl) dX8_smallest_77 ⟨Nat.zero_le _, Nat.zero_le _⟩ (fun H locs hP hD hS => ?_)
          refine lv_istore (lv' := [(7, .int u24.1), (0, .ref a_this), (1, .int x1), (2, .int x2), (3, .int x3), (4, .int x4), (5, .int x5), (6, .int x6)]) hx hb dX8_smallest_80 hl (by decide) rfl (fun ls hl => ?_)
          refine lv_iload hx hb dX8_smallest_82 (lv_at hl 0 rfl) ?_
          refine lv_iload hx hb dX8_smallest_84 (lv_at hl 5 rfl) ?_
          refine lv_icmp_ge (tgt := 93) hx hb dX8_smallest_86 (by decide) (fun c25 => ?_) (fun c25 => ?_)
          · have hf := br_pos c25 hf
            refine lv_iload hx hb dX8_smallest_93 (lv_at hl 0 rfl) ?_
            refine lv_iload hx hb dX8_smallest_95 (lv_at hl 5 rfl) ?_
            refine lv_icmp_ne (tgt := 107) hx hb dX8_smallest_97 (by decide) (fun c26 => ?_) (fun c26 => ?_)
            · have hf := br_neg c26 hf
              refine lv_iload hx hb dX8_smallest_107 (lv_at hl 6 rfl) ?_
              exact w109 x4 x6 u24.1 x5 u24.2 _ H locs ls hf hF hP hD hS (lv_sub hl [1, 2, 3, 4, 5, 7, 0] rfl)
            · have hf := br_pos c26 hf
              refine lv_iload hx hb dX8_smallest_100 (lv_at hl 6 rfl) ?_
              refine lv_iconst (v := 1) hx hb dX8_smallest_102 (by decide) ?_
              refine lv_iadd hx hb dX8_smallest_103 ?_
              refine lv_goto (tgt := 109) hx hb dX8_smallest_104 (by decide) ?_
              exact w109 x4 x6 u24.1 (x5 + (1 : Int32)) u24.2 _ H locs ls hf hF hP hD hS (lv_sub hl [1, 2, 3, 4, 5, 7, 0] rfl)
          · have hf := br_neg c25 hf
            refine lv_iconst (v := 1) hx hb dX8_smallest_89 (by decide) ?_
            refine lv_goto (tgt := 109) hx hb dX8_smallest_90 (by decide) ?_
            exact w109 x4 x6 u24.1 (1 : Int32) u24.2 _ H locs ls hf hF hP hD hS (lv_sub hl [1, 2, 3, 4, 5, 7, 0] rfl)
    intro x4 x5 x6 g_sums t H locs ls hf hF hP hD hS hl
    exact ((congrFun eF55 _).mp (key ((x4, x5, x6, g_sums)) t hf hF)) H locs ls hP hD hS hl
  have w30 : ∀ (x1 : Int32) (x2 : Int32) (x3 : Int32) (k0 : Int64) (k1 : Int64) (k2 : Int64) (g_sums : Nat → Int32) (H : Heap) (locs : List Loc) (ls : Array Slot), bX8_smallest_30 x1 x2 x3 k0 k1 k2 g_sums = some ((r0, v_sums)) → va_P D vwCl [(a_this, .inr (8, [.int g_length, .ref a_text, .ref a_now, .ref a_before, .int g_undoMany, .ref a_read, .int g_spot, .ref a_first, .ref a_second, .ref a_sums, .ref a_other, .int g_step, .int g_coverMany, .ref a_grid, .ref a_order, .int g_leastSums, .int g_leastPart])), (a_sums, .inl (cZ, 241, .inl g_sums))] H → va_D A [(a_this, .inr (8, [.int g_length, .ref a_text, .ref a_now, .ref a_before, .int g_undoMany, .ref a_read, .int g_spot, .ref a_first, .ref a_second, .ref a_sums, .ref a_other, .int g_step, .int g_coverMany, .ref a_grid, .ref a_order, .int g_leastSums, .int g_leastPart])), (a_sums, .inl (cZ, 241, .inl g_sums))] → va_S A s.heap H locs → lv_has ls 8 [(0, .ref a_this), (1, .int x1), (2, .int x2), (3, .int x3)] → W p l e rmX8_smallest s m ([.ref a_this, .int q1, .int q2, .int q3] : List Value).toArray below meth c H locs 0 0 (MQ below (cQi D r0 A [(a_this, .inr (8, [.int g_length, .ref a_text, .ref a_now, .ref a_before, .int g_undoMany, .ref a_read, .int g_spot, .ref a_first, .ref a_second, .ref a_sums, .ref a_other, .int g_step, .int g_coverMany, .ref a_grid, .ref a_order, .int g_leastSums, .int g_leastPart])), (a_sums, .inl (cZ, 241, .inl v_sums))]) ([.ref a_this, .int q1, .int q2, .int q3] : List Value).toArray s 0 0 A) (F0 m 30 ls [.long k2, .long k1, .long k0]) := by
    intro x1 x2 x3 k0 k1 k2 g_sums H locs ls hf hP hD hS hl
    unfold bX8_smallest_30 at hf
    obtain ⟨u27, hu27, hf⟩ := bd_some hf
    refine caSI (rest := []) (As := [.long k0, .long k1, .long k2]) (wr := [(a_this, .inr (8, [.int g_length, .ref a_text, .ref a_now, .ref a_before, .int g_undoMany, .ref a_read, .int g_spot, .ref a_first, .ref a_second, .ref a_sums, .ref a_other, .int g_step, .int g_coverMany, .ref a_grid, .ref a_order, .int g_leastSums, .int g_leastPart])), (a_sums, .inl (cZ, 241, .inl g_sums))]) (wo := [(a_this, .inr (8, [.int g_length, .ref a_text, .ref a_now, .ref a_before, .int g_undoMany, .ref a_read, .int g_spot, .ref a_first, .ref a_second, .ref a_sums, .ref a_other, .int g_step, .int g_coverMany, .ref a_grid, .ref a_order, .int g_leastSums, .int g_leastPart])), (a_sums, .inl (cZ, 241, .inl g_sums))]) ⟨hx, hb, hml, hown, hts⟩ hN hP hD hS hA (cX8_in_ct l D cI cL cC cZ k0 k1 k2 u27 hu27) z3 [] [0, 1] [0, 1] rfl (by decide) rfl (by decide) (by decide) rfl (by decide) rfl hl.1 rfl (Nat.le_of_ble_eq_true rfl) dX8_smallest_30 ⟨Nat.zero_le _, Nat.zero_le _⟩ (fun H locs hP hD hS => ?_)
    refine lv_if_eq (tgt := 42) hx hb dX8_smallest_33 (by decide) (fun c28 => ?_) (fun c28 => ?_)
    · have hf := br_pos c28 hf
      refine lv_iconst (v := -1) hx hb dX8_smallest_42 (by decide) ?_
      have hE : ((-1 : Int32), g_sums) = (r0, v_sums) := Option.some.inj hf
      simp only [Prod.mk.injEq] at hE
      obtain ⟨rfl, rfl⟩ := hE
      exact rtI hx hb hr hlk hP hD hS dX8_smallest_43
    · have hf := br_neg c28 hf
      refine lv_iload_n hx hb dX8_smallest_36 rfl (lv_at hl 3 rfl) ?_
      refine lv_bipush (v := -2) hx hb dX8_smallest_37 (by decide) ?_
      refine lv_icmp_ge (tgt := 44) hx hb dX8_smallest_39 (by decide) (fun c29 => ?_) (fun c29 => ?_)
      · have hf := br_pos c29 hf
        refine lv_sipush (v := 1000) hx hb dX8_smallest_44 (by decide) ?_
        refine lv_istore (lv' := [(4, .int (1000 : Int32)), (0, .ref a_this), (1, .int x1), (2, .int x2), (3, .int x3)]) hx hb dX8_smallest_47 hl (by decide) rfl (fun ls hl => ?_)
        refine lv_iconst (v := 0) hx hb dX8_smallest_49 (by decide) ?_
        refine lv_istore (lv' := [(5, .int (0 : Int32)), (4, .int (1000 : Int32)), (0, .ref a_this), (1, .int x1), (2, .int x2), (3, .int x3)]) hx hb dX8_smallest_50 hl (by decide) rfl (fun ls hl => ?_)
        refine lv_iconst (v := 1) hx hb dX8_smallest_52 (by decide) ?_
        refine lv_istore (lv' := [(6, .int (1 : Int32)), (5, .int (0 : Int32)), (4, .int (1000 : Int32)), (0, .ref a_this), (1, .int x1), (2, .int x2), (3, .int x3)]) hx hb dX8_smallest_53 hl (by decide) rfl (fun ls hl => ?_)
        exact w55 x1 x2 x3 (1000 : Int32) (0 : Int32) (1 : Int32) g_sums (r0, v_sums) H locs ls hf rfl hP hD hS (lv_sub hl [3, 4, 5, 6, 2, 1, 0] rfl)
      · have hf := br_neg c29 hf
        refine lv_iconst (v := -1) hx hb dX8_smallest_42 (by decide) ?_
        have hE : ((-1 : Int32), g_sums) = (r0, v_sums) := Option.some.inj hf
        simp only [Prod.mk.injEq] at hE
        obtain ⟨rfl, rfl⟩ := hE
        exact rtI hx hb hr hlk hP hD hS dX8_smallest_43
  unfold fX8_smallest at hf
  obtain ⟨H, eH⟩ : ∃ z, z = s.heap := ⟨_, rfl⟩
  obtain ⟨locs, eL⟩ : ∃ z : List Loc, z = [] := ⟨_, rfl⟩
  have hP : va_P D vwCl [(a_this, .inr (8, [.int g_length, .ref a_text, .ref a_now, .ref a_before, .int g_undoMany, .ref a_read, .int g_spot, .ref a_first, .ref a_second, .ref a_sums, .ref a_other, .int g_step, .int g_coverMany, .ref a_grid, .ref a_order, .int g_leastSums, .int g_leastPart])), (a_sums, .inl (cZ, 241, .inl g_sums))] H := by rw [eH]; exact hP
  have hS : va_S A s.heap H locs := by rw [eH, eL]; exact hS
  suffices hG : W p l e rmX8_smallest s m ([.ref a_this, .int q1, .int q2, .int q3] : List Value).toArray below meth c H locs 0 0 (MQ below (cQi D r0 A [(a_this, .inr (8, [.int g_length, .ref a_text, .ref a_now, .ref a_before, .int g_undoMany, .ref a_read, .int g_spot, .ref a_first, .ref a_second, .ref a_sums, .ref a_other, .int g_step, .int g_coverMany, .ref a_grid, .ref a_order, .int g_leastSums, .int g_leastPart])), (a_sums, .inl (cZ, 241, .inl v_sums))]) ([.ref a_this, .int q1, .int q2, .int q3] : List Value).toArray s 0 0 A) (F0 m 0 ls []) by rw [eH, eL] at hG; exact hG
  refine lv_iload_n hx hb dX8_smallest_0 rfl (lv_at hl 1 rfl) ?_
  refine lv_i2l hx hb dX8_smallest_1 rfl ?_
  refine lv_lconst (v := 1) hx hb dX8_smallest_2 (by decide) ?_
  refine lv_ldc2 (v := 8) hx hb hown z4 dX8_smallest_3 ?_
  obtain ⟨u30, hu30, hf⟩ := bd_some hf
  refine caSI (rest := []) (As := [.long q1.toInt64, .long (1 : Int64), .long (8 : Int64)]) (wr := [(a_this, .inr (8, [.int g_length, .ref a_text, .ref a_now, .ref a_before, .int g_undoMany, .ref a_read, .int g_spot, .ref a_first, .ref a_second, .ref a_sums, .ref a_other, .int g_step, .int g_coverMany, .ref a_grid, .ref a_order, .int g_leastSums, .int g_leastPart])), (a_sums, .inl (cZ, 241, .inl g_sums))]) (wo := [(a_this, .inr (8, [.int g_length, .ref a_text, .ref a_now, .ref a_before, .int g_undoMany, .ref a_read, .int g_spot, .ref a_first, .ref a_second, .ref a_sums, .ref a_other, .int g_step, .int g_coverMany, .ref a_grid, .ref a_order, .int g_leastSums, .int g_leastPart])), (a_sums, .inl (cZ, 241, .inl g_sums))]) ⟨hx, hb, hml, hown, hts⟩ hN hP hD hS hA (cX8_in_ct l D cI cL cC cZ q1.toInt64 (1 : Int64) (8 : Int64) u30 hu30) z3 [] [0, 1] [0, 1] rfl (by decide) rfl (by decide) (by decide) rfl (by decide) rfl hl.1 rfl (Nat.le_of_ble_eq_true rfl) dX8_smallest_6 ⟨Nat.zero_le _, Nat.zero_le _⟩ (fun H locs hP hD hS => ?_)
  refine lv_if_eq (tgt := 42) hx hb dX8_smallest_9 (by decide) (fun c31 => ?_) (fun c31 => ?_)
  · have hf := br_pos c31 hf
    refine lv_iconst (v := -1) hx hb dX8_smallest_42 (by decide) ?_
    have hE : ((-1 : Int32), g_sums) = (r0, v_sums) := Option.some.inj hf
    simp only [Prod.mk.injEq] at hE
    obtain ⟨rfl, rfl⟩ := hE
    exact rtI hx hb hr hlk hP hD hS dX8_smallest_43
  · have hf := br_neg c31 hf
    refine lv_iload_n hx hb dX8_smallest_12 rfl (lv_at hl 2 rfl) ?_
    refine lv_i2l hx hb dX8_smallest_13 rfl ?_
    refine lv_iload_n hx hb dX8_smallest_14 rfl (lv_at hl 1 rfl) ?_
    refine lv_iconst (v := 1) hx hb dX8_smallest_15 (by decide) ?_
    refine lv_isub hx hb dX8_smallest_16 ?_
    refine lv_i2l hx hb dX8_smallest_17 rfl ?_
    refine lv_iload_n hx hb dX8_smallest_18 rfl (lv_at hl 1 rfl) ?_
    refine lv_iconst (v := 1) hx hb dX8_smallest_19 (by decide) ?_
    refine lv_icmp_ne (tgt := 27) hx hb dX8_smallest_20 (by decide) (fun c32 => ?_) (fun c32 => ?_)
    · have hf := br_neg c32 hf
      refine lv_ldc2 (v := 14) hx hb hown z5 dX8_smallest_27 ?_
      exact w30 q1 q2 q3 q2.toInt64 ((q1 - (1 : Int32)).toInt64) (14 : Int64) g_sums H locs ls hf hP hD hS (lv_sub hl [0, 1, 2, 3] rfl)
    · have hf := br_pos c32 hf
      refine lv_lconst (v := 0) hx hb dX8_smallest_23 (by decide) ?_
      refine lv_goto (tgt := 30) hx hb dX8_smallest_24 (by decide) ?_
      exact w30 q1 q2 q3 q2.toInt64 ((q1 - (1 : Int32)).toInt64) (0 : Int64) g_sums H locs ls hf hP hD hS (lv_sub hl [0, 1, 2, 3] rfl)
abbrev rmX8_count : Room := { frames := 2, cells := 0, slots := 0, locals := 45 }
noncomputable def fX8_count (q1 : Int32) (g_length : Int32) (g_undoMany : Int32) (g_now : Nat → Int32) : Option (Int32) := br (q1 = (0 : Int32)) (bd (fX8_manyOf q1 g_now) (fun u8 => some (u8))) (br (q1 = (1 : Int32)) (bd (fX8_manyOf q1 g_now) (fun u9 => some (u9))) (br (q1 = (2 : Int32)) (bd (fX8_manyOf q1 g_now) (fun u10 => some (u10))) (br (q1 = (3 : Int32)) (bd (fX8_manyOf q1 g_now) (fun u11 => some (u11))) (br (q1 = (4 : Int32)) (some (g_undoMany)) (br (q1 = (5 : Int32)) (some (g_length)) (br (q1 = (6 : Int32)) (bd (fX8_slots g_now) (fun u12 => some (u12))) (some ((-1 : Int32)))))))))
set_option maxHeartbeats 4000000 in
set_option maxRecDepth 100000 in
theorem cX8_count_ct (l : Launch) (D : va_G) (cI cL cC cZ : ClassId) (a_this a_text a_now a_before a_read a_first a_second a_sums a_other a_grid a_order : Nat) (g_length : Int32) (g_undoMany : Int32) (g_spot : Int32) (g_step : Int32) (g_coverMany : Int32) (g_leastSums : Int32) (g_leastPart : Int32) (g_now : Nat → Int32) (q1 : Int32) (r0 : Int32) (hf : fX8_count q1 g_length g_undoMany g_now = some r0) : CtI l yX8_count wsX8_count rmX8_count D (tyz cI cL cC cZ) [.ref a_this, .int q1] [(a_this, .inr (8, [.int g_length, .ref a_text, .ref a_now, .ref a_before, .int g_undoMany, .ref a_read, .int g_spot, .ref a_first, .ref a_second, .ref a_sums, .ref a_other, .int g_step, .int g_coverMany, .ref a_grid, .ref a_order, .int g_leastSums, .int g_leastPart])), (a_now, .inl (cZ, 164, .inl g_now))] [(a_this, .inr (8, [.int g_length, .ref a_text, .ref a_now, .ref a_before, .int g_undoMany, .ref a_read, .int g_spot, .ref a_first, .ref a_second, .ref a_sums, .ref a_other, .int g_step, .int g_coverMany, .ref a_grid, .ref a_order, .int g_leastSums, .int g_leastPart])), (a_now, .inl (cZ, 164, .inl g_now))] r0 := by
  refine CtI.make (cc := cX8_count) (maxL := 2) (ty := .int) (by decide) rfl (Nat.le_of_ble_eq_true rfl) ?_
  intro p e s m below meth c A ls C0 hN hA hP hD hl
  obtain ⟨hx, hb, hr, hml, hown, hts, hlk⟩ := id C0
  have hown : s.vm.findClass RX8 = some m.cls := hown
  have hS : va_S A s.heap s.heap [] := va_S.rf
  have hP : va_P D vwCl [(a_this, .inr (8, [.int g_length, .ref a_text, .ref a_now, .ref a_before, .int g_undoMany, .ref a_read, .int g_spot, .ref a_first, .ref a_second, .ref a_sums, .ref a_other, .int g_step, .int g_coverMany, .ref a_grid, .ref a_order, .int g_leastSums, .int g_leastPart])), (a_now, .inl (cZ, 164, .inl g_now))] s.heap := hP
  have hD : va_D A [(a_this, .inr (8, [.int g_length, .ref a_text, .ref a_now, .ref a_before, .int g_undoMany, .ref a_read, .int g_spot, .ref a_first, .ref a_second, .ref a_sums, .ref a_other, .int g_step, .int g_coverMany, .ref a_grid, .ref a_order, .int g_leastSums, .int g_leastPart])), (a_now, .inl (cZ, 164, .inl g_now))] := hD
  have hl : lv_has ls 2 [(0, .ref a_this), (1, .int q1)] := hl
  have z1 := cwV (R := rmX8_count) (rm := rmX8_manyOf) (mc := 0) (ms := 0) 1 hts gX8_count_X8_manyOf rfl rfl rfl (by decide +kernel) ⟨Nat.le_of_ble_eq_true rfl, Nat.le_of_ble_eq_true rfl⟩
  have z2 : ∀ w ∈ u_ws RX8 TX8 17, w ∈ wsX8_count := by decide +kernel
  have z3 := hts (.fieldLink RX8 81 "LittleSumsModel" "undoMany" "I") (by decide +kernel)
  have z4 := hts (.fieldLink RX8 51 "LittleSumsModel" "length" "I") (by decide +kernel)
  have z5 := cwV (R := rmX8_count) (rm := rmX8_slots) (mc := 0) (ms := 0) 0 hts gX8_count_X8_slots rfl rfl rfl (by decide +kernel) ⟨Nat.le_of_ble_eq_true rfl, Nat.le_of_ble_eq_true rfl⟩
  unfold fX8_count at hf
  obtain ⟨H, eH⟩ : ∃ z, z = s.heap := ⟨_, rfl⟩
  obtain ⟨locs, eL⟩ : ∃ z : List Loc, z = [] := ⟨_, rfl⟩
  have hP : va_P D vwCl [(a_this, .inr (8, [.int g_length, .ref a_text, .ref a_now, .ref a_before, .int g_undoMany, .ref a_read, .int g_spot, .ref a_first, .ref a_second, .ref a_sums, .ref a_other, .int g_step, .int g_coverMany, .ref a_grid, .ref a_order, .int g_leastSums, .int g_leastPart])), (a_now, .inl (cZ, 164, .inl g_now))] H := by rw [eH]; exact hP
  have hS : va_S A s.heap H locs := by rw [eH, eL]; exact hS
  suffices hG : W p l e rmX8_count s m ([.ref a_this, .int q1] : List Value).toArray below meth c H locs 0 0 (MQ below (cQi D r0 A [(a_this, .inr (8, [.int g_length, .ref a_text, .ref a_now, .ref a_before, .int g_undoMany, .ref a_read, .int g_spot, .ref a_first, .ref a_second, .ref a_sums, .ref a_other, .int g_step, .int g_coverMany, .ref a_grid, .ref a_order, .int g_leastSums, .int g_leastPart])), (a_now, .inl (cZ, 164, .inl g_now))]) ([.ref a_this, .int q1] : List Value).toArray s 0 0 A) (F0 m 0 ls []) by rw [eH, eL] at hG; exact hG
  refine lv_iload_n hx hb dX8_count_0 rfl (lv_at hl 1 rfl) ?_
  rcases Classical.em (q1 = (0 : Int32)) with c1 | c1
  · have hf := br_pos c1 hf
    refine lv_tableIn (tgt := 44) (off := 43) hx hb dX8_count_1 (by rw [c1]; decide) (by rw [c1]; decide) (by rw [c1]; decide) (by decide) ?_
    refine lv_aload_n hx hb dX8_count_44 rfl (lv_at hl 0 rfl) ?_
    refine lv_iload_n hx hb dX8_count_45 rfl (lv_at hl 1 rfl) ?_
    obtain ⟨u8, hu8, hf⟩ := bd_some hf
    refine caVI (rest := []) (As := [.int q1]) (wr := []) (wo := [(a_this, .inr (8, [.int g_length, .ref a_text, .ref a_now, .ref a_before, .int g_undoMany, .ref a_read, .int g_spot, .ref a_first, .ref a_second, .ref a_sums, .ref a_other, .int g_step, .int g_coverMany, .ref a_grid, .ref a_order, .int g_leastSums, .int g_leastPart])), (a_now, .inl (cZ, 164, .inl g_now))]) ⟨hx, hb, hml, hown, hts⟩ hN hP hD hS hA (cX8_manyOf_ct l D cI cL cC cZ a_this a_text a_now a_before a_read a_first a_second a_sums a_other a_grid a_order g_length g_undoMany g_spot g_step g_coverMany g_leastSums g_leastPart g_now q1 u8 hu8) z1 0 8 rfl rfl [0, 1] [] [0, 1] rfl (by decide) rfl (by decide) (by decide) rfl (by decide) rfl hl.1 rfl (Nat.le_of_ble_eq_true rfl) dX8_count_46 ⟨Nat.zero_le _, Nat.zero_le _⟩ (fun H locs hP hD hS => ?_)
    have hE : u8 = r0 := Option.some.inj hf
    subst hE
    exact rtI hx hb hr hlk hP hD hS dX8_count_49
  · have hf := br_neg c1 hf
    rcases Classical.em (q1 = (1 : Int32)) with c2 | c2
    · have hf := br_pos c2 hf
      refine lv_tableIn (tgt := 44) (off := 43) hx hb dX8_count_1 (by rw [c2]; decide) (by rw [c2]; decide) (by rw [c2]; decide) (by decide) ?_
      refine lv_aload_n hx hb dX8_count_44 rfl (lv_at hl 0 rfl) ?_
      refine lv_iload_n hx hb dX8_count_45 rfl (lv_at hl 1 rfl) ?_
      obtain ⟨u9, hu9, hf⟩ := bd_some hf
      refine caVI (rest := []) (As := [.int q1]) (wr := []) (wo := [(a_this, .inr (8, [.int g_length, .ref a_text, .ref a_now, .ref a_before, .int g_undoMany, .ref a_read, .int g_spot, .ref a_first, .ref a_second, .ref a_sums, .ref a_other, .int g_step, .int g_coverMany, .ref a_grid, .ref a_order, .int g_leastSums, .int g_leastPart])), (a_now, .inl (cZ, 164, .inl g_now))]) ⟨hx, hb, hml, hown, hts⟩ hN hP hD hS hA (cX8_manyOf_ct l D cI cL cC cZ a_this a_text a_now a_before a_read a_first a_second a_sums a_other a_grid a_order g_length g_undoMany g_spot g_step g_coverMany g_leastSums g_leastPart g_now q1 u9 hu9) z1 0 8 rfl rfl [0, 1] [] [0, 1] rfl (by decide) rfl (by decide) (by decide) rfl (by decide) rfl hl.1 rfl (Nat.le_of_ble_eq_true rfl) dX8_count_46 ⟨Nat.zero_le _, Nat.zero_le _⟩ (fun H locs hP hD hS => ?_)
      have hE : u9 = r0 := Option.some.inj hf
      subst hE
      exact rtI hx hb hr hlk hP hD hS dX8_count_49
    · have hf := br_neg c2 hf
      rcases Classical.em (q1 = (2 : Int32)) with c3 | c3
      · have hf := br_pos c3 hf
        refine lv_tableIn (tgt := 44) (off := 43) hx hb dX8_count_1 (by rw [c3]; decide) (by rw [c3]; decide) (by rw [c3]; decide) (by decide) ?_
        refine lv_aload_n hx hb dX8_count_44 rfl (lv_at hl 0 rfl) ?_
        refine lv_iload_n hx hb dX8_count_45 rfl (lv_at hl 1 rfl) ?_
        obtain ⟨u10, hu10, hf⟩ := bd_some hf
        refine caVI (rest := []) (As := [.int q1]) (wr := []) (wo := [(a_this, .inr (8, [.int g_length, .ref a_text, .ref a_now, .ref a_before, .int g_undoMany, .ref a_read, .int g_spot, .ref a_first, .ref a_second, .ref a_sums, .ref a_other, .int g_step, .int g_coverMany, .ref a_grid, .ref a_order, .int g_leastSums, .int g_leastPart])), (a_now, .inl (cZ, 164, .inl g_now))]) ⟨hx, hb, hml, hown, hts⟩ hN hP hD hS hA (cX8_manyOf_ct l D cI cL cC cZ a_this a_text a_now a_before a_read a_first a_second a_sums a_other a_grid a_order g_length g_undoMany g_spot g_step g_coverMany g_leastSums g_leastPart g_now q1 u10 hu10) z1 0 8 rfl rfl [0, 1] [] [0, 1] rfl (by decide) rfl (by decide) (by decide) rfl (by decide) rfl hl.1 rfl (Nat.le_of_ble_eq_true rfl) dX8_count_46 ⟨Nat.zero_le _, Nat.zero_le _⟩ (fun H locs hP hD hS => ?_)
        have hE : u10 = r0 := Option.some.inj hf
        subst hE
        exact rtI hx hb hr hlk hP hD hS dX8_count_49
      · have hf := br_neg c3 hf
        rcases Classical.em (q1 = (3 : Int32)) with c4 | c4
        · have hf := br_pos c4 hf
          refine lv_tableIn (tgt := 44) (off := 43) hx hb dX8_count_1 (by rw [c4]; decide) (by rw [c4]; decide) (by rw [c4]; decide) (by decide) ?_
          refine lv_aload_n hx hb dX8_count_44 rfl (lv_at hl 0 rfl) ?_
          refine lv_iload_n hx hb dX8_count_45 rfl (lv_at hl 1 rfl) ?_
          obtain ⟨u11, hu11, hf⟩ := bd_some hf
          refine caVI (rest := []) (As := [.int q1]) (wr := []) (wo := [(a_this, .inr (8, [.int g_length, .ref a_text, .ref a_now, .ref a_before, .int g_undoMany, .ref a_read, .int g_spot, .ref a_first, .ref a_second, .ref a_sums, .ref a_other, .int g_step, .int g_coverMany, .ref a_grid, .ref a_order, .int g_leastSums, .int g_leastPart])), (a_now, .inl (cZ, 164, .inl g_now))]) ⟨hx, hb, hml, hown, hts⟩ hN hP hD hS hA (cX8_manyOf_ct l D cI cL cC cZ a_this a_text a_now a_before a_read a_first a_second a_sums a_other a_grid a_order g_length g_undoMany g_spot g_step g_coverMany g_leastSums g_leastPart g_now q1 u11 hu11) z1 0 8 rfl rfl [0, 1] [] [0, 1] rfl (by decide) rfl (by decide) (by decide) rfl (by decide) rfl hl.1 rfl (Nat.le_of_ble_eq_true rfl) dX8_count_46 ⟨Nat.zero_le _, Nat.zero_le _⟩ (fun H locs hP hD hS => ?_)
          have hE : u11 = r0 := Option.some.inj hf
          subst hE
          exact rtI hx hb hr hlk hP hD hS dX8_count_49
        · have hf := br_neg c4 hf
          rcases Classical.em (q1 = (4 : Int32)) with c5 | c5
          · have hf := br_pos c5 hf
            refine lv_tableIn (tgt := 50) (off := 49) hx hb dX8_count_1 (by rw [c5]; decide) (by rw [c5]; decide) (by rw [c5]; decide) (by decide) ?_
            refine lv_aload_n hx hb dX8_count_50 rfl (lv_at hl 0 rfl) ?_
            refine va_get (D := D) (ci := 8) (v := .int g_undoMany) (C := RX8) (T := TX8) (N := 17) hx hb hts z2 hown hN.1 hP 0 rfl rfl 4 (by decide) z3 (fun _ h9 => h9) rfl dX8_count_51 ?_
            have hE : g_undoMany = r0 := Option.some.inj hf
            subst hE
            exact rtI hx hb hr hlk hP hD hS dX8_count_54
          · have hf := br_neg c5 hf
            rcases Classical.em (q1 = (5 : Int32)) with c6 | c6
            · have hf := br_pos c6 hf
              refine lv_tableIn (tgt := 55) (off := 54) hx hb dX8_count_1 (by rw [c6]; decide) (by rw [c6]; decide) (by rw [c6]; decide) (by decide) ?_
              refine lv_aload_n hx hb dX8_count_55 rfl (lv_at hl 0 rfl) ?_
              refine va_get (D := D) (ci := 8) (v := .int g_length) (C := RX8) (T := TX8) (N := 17) hx hb hts z2 hown hN.1 hP 0 rfl rfl 0 (by decide) z4 (fun _ h9 => h9) rfl dX8_count_56 ?_
              have hE : g_length = r0 := Option.some.inj hf
              subst hE
              exact rtI hx hb hr hlk hP hD hS dX8_count_59
            · have hf := br_neg c6 hf
              rcases Classical.em (q1 = (6 : Int32)) with c7 | c7
              · have hf := br_pos c7 hf
                refine lv_tableIn (tgt := 60) (off := 59) hx hb dX8_count_1 (by rw [c7]; decide) (by rw [c7]; decide) (by rw [c7]; decide) (by decide) ?_
                refine lv_aload_n hx hb dX8_count_60 rfl (lv_at hl 0 rfl) ?_
                obtain ⟨u12, hu12, hf⟩ := bd_some hf
                refine caVI (rest := []) (As := []) (wr := []) (wo := [(a_this, .inr (8, [.int g_length, .ref a_text, .ref a_now, .ref a_before, .int g_undoMany, .ref a_read, .int g_spot, .ref a_first, .ref a_second, .ref a_sums, .ref a_other, .int g_step, .int g_coverMany, .ref a_grid, .ref a_order, .int g_leastSums, .int g_leastPart])), (a_now, .inl (cZ, 164, .inl g_now))]) ⟨hx, hb, hml, hown, hts⟩ hN hP hD hS hA (cX8_slots_ct l D cI cL cC cZ a_this a_text a_now a_before a_read a_first a_second a_sums a_other a_grid a_order g_length g_undoMany g_spot g_step g_coverMany g_leastSums g_leastPart g_now u12 hu12) z5 0 8 rfl rfl [0, 1] [] [0, 1] rfl (by decide) rfl (by decide) (by decide) rfl (by decide) rfl hl.1 rfl (Nat.le_of_ble_eq_true rfl) dX8_count_61 ⟨Nat.zero_le _, Nat.zero_le _⟩ (fun H locs hP hD hS => ?_)
                have hE : u12 = r0 := Option.some.inj hf
                subst hE
                exact rtI hx hb hr hlk hP hD hS dX8_count_64
              · have hf := br_neg c7 hf
                have nc1 := lv_neT (a := 0) c1 (by decide)
                have nc2 := lv_neT (a := 1) c2 (by decide)
                have nc3 := lv_neT (a := 2) c3 (by decide)
                have nc4 := lv_neT (a := 3) c4 (by decide)
                have nc5 := lv_neT (a := 4) c5 (by decide)
                have nc6 := lv_neT (a := 5) c6 (by decide)
                have nc7 := lv_neT (a := 6) c7 (by decide)
                refine lv_tableOut (tgt := 65) hx hb dX8_count_1 (by omega) (by decide) ?_
                refine lv_iconst (v := -1) hx hb dX8_count_65 (by decide) ?_
                have hE : (-1 : Int32) = r0 := Option.some.inj hf
                subst hE
                exact rtI hx hb hr hlk hP hD hS dX8_count_66
