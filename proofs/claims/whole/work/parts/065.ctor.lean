abbrev rmX0_init : Room := { frames := 1, cells := 1, slots := 10, locals := 64 }
set_option maxHeartbeats 4000000 in
set_option maxRecDepth 100000 in
theorem cX0_init_ct (l : Launch) (D : va_G) (cI cL cC cZ : ClassId) (a_this : Nat) : CtN l yX0_init wsX0_init rmX0_init D (tyz cI cL cC cZ) [.ref a_this] [(a_this, .inr (0, [.null, .long 0, .int 0, .long 0, .int 0, .int 0, .int 0, .int 0, .int 0, .int 0, .int 0]))] (fun (u : Nat) => [(a_this, .inr (0, [.ref u, .long 0, .int 0, .long 0, .int 0, .int 0, .int 0, .int 0, .int 0, .int 0, .int 0])), (u, .inl (cI, 10, .inl (fun _ => 0)))]) 1 10 := by
  refine CtN.make (cc := cX0_init) (maxL := 1) (by decide) rfl (Nat.le_of_ble_eq_true rfl) ?_
  intro p e s m below meth c A ls C0 hin hN hA hP hD hl
  obtain ⟨hx, hb, hr, hml, hown, hts, hlk⟩ := id C0
  have hown : s.vm.findClass RX0 = some m.cls := hown
  have hS : va_S A s.heap s.heap [] := va_S.rf
  have hl : lv_has ls 1 [(0, .ref a_this)] := hl
  have z1 := hts (.methodLink RX0 3 objectInit) (by decide +kernel)
  have z2 := hts (.instanceMethod objectInit) (by decide +kernel)
  have z3 : (Cond.code objectInit ⟨#[0xb1]⟩ 1 none).before _ s = true := hts _ (List.mem_of_getElem? (i := 3) rfl)
  have z4 := hts (.arrayClass .int) (by decide +kernel)
  have z5 : ∀ w ∈ u_ws RX0 TX0 11, w ∈ wsX0_init := by decide +kernel
  have z6 := hts (.fieldLink RX0 11 "LittleSums$GridSearch" "factors" "[I") (by decide +kernel)
  refine lv_aload_n hx hb dX0_init_0 rfl (lv_at hl 0 rfl) ?_
  refine W.objInit hx hb hown z1 z2 z3 rfl (by rw [hml]; exact hl.1) rfl dX0_init_1 (Nat.le_of_ble_eq_true rfl) (Nat.le_of_ble_eq_true rfl) ?_
  refine W.eq (g2 := F0 m 4 ls []) rfl ?_
  refine lv_aload_n hx hb dX0_init_4 rfl (lv_at hl 0 rfl) ?_
  refine lv_bipush (v := 10) hx hb dX0_init_5 (by decide) ?_
  refine va_newa (atype := .int) (N' := 10) (a0 := (10, .inl (fun _ => 0))) hx hb z4 rfl hN.1 hP hD hS hA (fun _ => rfl) (by decide) (by decide) (by decide) (Nat.le_of_ble_eq_true rfl) (Nat.le_of_ble_eq_true rfl) dX0_init_7 (fun q7 cA H hK1 hP hD hS => ?_)
  have eA := arr_cI hK1
  rw [eA] at hP hD
  have hP : va_P D vwCl [(a_this, .inr (0, [.null, .long 0, .int 0, .long 0, .int 0, .int 0, .int 0, .int 0, .int 0, .int 0, .int 0])), (q7, .inl (cI, 10, .inl (fun _ => 0)))] H := hP
  have hD : va_D A [(a_this, .inr (0, [.null, .long 0, .int 0, .long 0, .int 0, .int 0, .int 0, .int 0, .int 0, .int 0, .int 0])), (q7, .inl (cI, 10, .inl (fun _ => 0)))] := hD
  clear eA hK1
  refine W.widen (k := 1) (n := 10) (Nat.le_of_ble_eq_true rfl) (Nat.le_of_ble_eq_true rfl) ?_
  refine va_putF (D := D) (ci := 0) (v := .ref q7) (ty := .array .int) (C := RX0) (T := TX0) (N := 11) hx hb hts z5 tyX0 tyX0_ok nmX0 hown hN.1 hP hD hS 0 rfl rfl 0 (by decide) z6 (fun _ h9 => h9) rfl hin rfl (by decide +kernel) rfl rfl (Nat.le_of_ble_eq_true rfl) dX0_init_9 (fun H locs hP hD hS => ?_)
  have hP : va_P D vwCl [(a_this, .inr (0, [.ref q7, .long 0, .int 0, .long 0, .int 0, .int 0, .int 0, .int 0, .int 0, .int 0, .int 0])), (q7, .inl (cI, 10, .inl (fun _ => 0)))] H := hP
  have hD : va_D A [(a_this, .inr (0, [.ref q7, .long 0, .int 0, .long 0, .int 0, .int 0, .int 0, .int 0, .int 0, .int 0, .int 0])), (q7, .inl (cI, 10, .inl (fun _ => 0)))] := hD
  exact rtN q7 hx hb hr hlk hP hD hS dX0_init_12
abbrev rmX1_init : Room := { frames := 1, cells := 2, slots := 12, locals := 64 }
set_option maxHeartbeats 4000000 in
set_option maxRecDepth 100000 in
theorem cX1_init_ct (l : Launch) (D : va_G) (cI cL cC cZ : ClassId) (a_this : Nat) : CtN l yX1_init wsX1_init rmX1_init D (tyz cI cL cC cZ) [.ref a_this] [(a_this, .inr (1, [.null, .null, .int 0]))] (fun (u : Nat × Nat) => [(a_this, .inr (1, [.ref u.1, .ref u.2, .int 0])), (u.1, .inl (cI, 6, .inl (fun _ => 0))), (u.2, .inl (cL, 6, .inr (.inl (fun _ => 0))))]) 2 12 := by
  refine CtN.make (cc := cX1_init) (maxL := 1) (by decide) rfl (Nat.le_of_ble_eq_true rfl) ?_
  intro p e s m below meth c A ls C0 hin hN hA hP hD hl
  obtain ⟨hx, hb, hr, hml, hown, hts, hlk⟩ := id C0
  have hown : s.vm.findClass RX1 = some m.cls := hown
  have hS : va_S A s.heap s.heap [] := va_S.rf
  have hl : lv_has ls 1 [(0, .ref a_this)] := hl
  have z1 := hts (.methodLink RX1 3 objectInit) (by decide +kernel)
  have z2 := hts (.instanceMethod objectInit) (by decide +kernel)
  have z3 : (Cond.code objectInit ⟨#[0xb1]⟩ 1 none).before _ s = true := hts _ (List.mem_of_getElem? (i := 3) rfl)
  have z4 := hts (.arrayClass .int) (by decide +kernel)
  have z5 : ∀ w ∈ u_ws RX1 TX1 3, w ∈ wsX1_init := by decide +kernel
  have z6 := hts (.fieldLink RX1 11 "LittleSums$History" "changed" "[I") (by decide +kernel)
  have z7 := hts (.arrayClass .long) (by decide +kernel)
  have z8 := hts (.fieldLink RX1 15 "LittleSums$History" "before" "[J") (by decide +kernel)
  refine lv_aload_n hx hb dX1_init_0 rfl (lv_at hl 0 rfl) ?_
  refine W.objInit hx hb hown z1 z2 z3 rfl (by rw [hml]; exact hl.1) rfl dX1_init_1 (Nat.le_of_ble_eq_true rfl) (Nat.le_of_ble_eq_true rfl) ?_
  refine W.eq (g2 := F0 m 4 ls []) rfl ?_
  refine lv_aload_n hx hb dX1_init_4 rfl (lv_at hl 0 rfl) ?_
  refine lv_bipush (v := 6) hx hb dX1_init_5 (by decide) ?_
  refine va_newa (atype := .int) (N' := 6) (a0 := (6, .inl (fun _ => 0))) hx hb z4 rfl hN.1 hP hD hS hA (fun _ => rfl) (by decide) (by decide) (by decide) (Nat.le_of_ble_eq_true rfl) (Nat.le_of_ble_eq_true rfl) dX1_init_7 (fun q7 cA H hK1 hP hD hS => ?_)
  have eA := arr_cI hK1
  rw [eA] at hP hD
  have hP : va_P D vwCl [(a_this, .inr (1, [.null, .null, .int 0])), (q7, .inl (cI, 6, .inl (fun _ => 0)))] H := hP
  have hD : va_D A [(a_this, .inr (1, [.null, .null, .int 0])), (q7, .inl (cI, 6, .inl (fun _ => 0)))] := hD
  clear eA hK1
  refine W.widen (k := 1) (n := 6) (Nat.le_of_ble_eq_true rfl) (Nat.le_of_ble_eq_true rfl) ?_
  refine va_putF (D := D) (ci := 1) (v := .ref q7) (ty := .array .int) (C := RX1) (T := TX1) (N := 3) hx hb hts z5 tyX1 tyX1_ok nmX1 hown hN.1 hP hD hS 0 rfl rfl 0 (by decide) z6 (fun _ h9 => h9) rfl hin rfl (by decide +kernel) rfl rfl (Nat.le_of_ble_eq_true rfl) dX1_init_9 (fun H locs hP hD hS => ?_)
  have hP : va_P D vwCl [(a_this, .inr (1, [.ref q7, .null, .int 0])), (q7, .inl (cI, 6, .inl (fun _ => 0)))] H := hP
  have hD : va_D A [(a_this, .inr (1, [.ref q7, .null, .int 0])), (q7, .inl (cI, 6, .inl (fun _ => 0)))] := hD
  refine lv_aload_n hx hb dX1_init_12 rfl (lv_at hl 0 rfl) ?_
  refine lv_bipush (v := 6) hx hb dX1_init_13 (by decide) ?_
  refine va_newa (atype := .long) (N' := 6) (a0 := (6, .inr (.inl (fun _ => 0)))) hx hb z7 rfl hN.1 hP hD hS hA (fun _ => rfl) (by decide) (by decide) (by decide) (Nat.le_of_ble_eq_true rfl) (Nat.le_of_ble_eq_true rfl) dX1_init_15 (fun q15 cA H hK1 hP hD hS => ?_)
  have eA := arr_cL hK1
  rw [eA] at hP hD
  have hP : va_P D vwCl [(a_this, .inr (1, [.ref q7, .null, .int 0])), (q7, .inl (cI, 6, .inl (fun _ => 0))), (q15, .inl (cL, 6, .inr (.inl (fun _ => 0))))] H := hP
  have hD : va_D A [(a_this, .inr (1, [.ref q7, .null, .int 0])), (q7, .inl (cI, 6, .inl (fun _ => 0))), (q15, .inl (cL, 6, .inr (.inl (fun _ => 0))))] := hD
  clear eA hK1
  refine W.widen (k := 2) (n := 12) (Nat.le_of_ble_eq_true rfl) (Nat.le_of_ble_eq_true rfl) ?_
  refine va_putF (D := D) (ci := 1) (v := .ref q15) (ty := .array .long) (C := RX1) (T := TX1) (N := 3) hx hb hts z5 tyX1 tyX1_ok nmX1 hown hN.1 hP hD hS 0 rfl rfl 1 (by decide) z8 (fun _ h9 => h9) rfl hin rfl (by decide +kernel) rfl rfl (Nat.le_of_ble_eq_true rfl) dX1_init_17 (fun H locs hP hD hS => ?_)
  have hP : va_P D vwCl [(a_this, .inr (1, [.ref q7, .ref q15, .int 0])), (q7, .inl (cI, 6, .inl (fun _ => 0))), (q15, .inl (cL, 6, .inr (.inl (fun _ => 0))))] H := hP
  have hD : va_D A [(a_this, .inr (1, [.ref q7, .ref q15, .int 0])), (q7, .inl (cI, 6, .inl (fun _ => 0))), (q15, .inl (cL, 6, .inr (.inl (fun _ => 0))))] := hD
  exact rtN (q7, q15) hx hb hr hlk hP hD hS dX1_init_20
abbrev rmX2_init : Room := { frames := 1, cells := 7, slots := 345, locals := 64 }
set_option maxHeartbeats 4000000 in
set_option maxRecDepth 100000 in
theorem cX2_init_ct (l : Launch) (D : va_G) (cI cL cC cZ : ClassId) (a_this : Nat) : CtN l yX2_init wsX2_init rmX2_init D (tyz cI cL cC cZ) [.ref a_this] [(a_this, .inr (2, [.null, .null, .null, .null, .null, .null, .null, .long 0, .long 0, .int 0, .int 0, .int 0]))] (fun (u : Nat × Nat × Nat × Nat × Nat × Nat × Nat) => [(a_this, .inr (2, [.ref u.1, .ref u.2.1, .ref u.2.2.1, .ref u.2.2.2.1, .ref u.2.2.2.2.1, .ref u.2.2.2.2.2.1, .ref u.2.2.2.2.2.2, .long 0, .long 0, .int 0, .int 0, .int 0])), (u.1, .inl (cI, 7, .inl (fun _ => 0))), (u.2.1, .inl (cI, 7, .inl (fun _ => 0))), (u.2.2.1, .inl (cI, 7, .inl (fun _ => 0))), (u.2.2.2.1, .inl (cI, 81, .inl (fun _ => 0))), (u.2.2.2.2.1, .inl (cI, 81, .inl (fun _ => 0))), (u.2.2.2.2.2.1, .inl (cI, 81, .inl (fun _ => 0))), (u.2.2.2.2.2.2, .inl (cI, 81, .inl (fun _ => 0)))]) 7 345 := by
  refine CtN.make (cc := cX2_init) (maxL := 1) (by decide) rfl (Nat.le_of_ble_eq_true rfl) ?_
  intro p e s m below meth c A ls C0 hin hN hA hP hD hl
  obtain ⟨hx, hb, hr, hml, hown, hts, hlk⟩ := id C0
  have hown : s.vm.findClass RX2 = some m.cls := hown
  have hS : va_S A s.heap s.heap [] := va_S.rf
  have hl : lv_has ls 1 [(0, .ref a_this)] := hl
  have z1 := hts (.methodLink RX2 3 objectInit) (by decide +kernel)
  have z2 := hts (.instanceMethod objectInit) (by decide +kernel)
  have z3 : (Cond.code objectInit ⟨#[0xb1]⟩ 1 none).before _ s = true := hts _ (List.mem_of_getElem? (i := 3) rfl)
  have z4 := hts (.arrayClass .int) (by decide +kernel)
  have z5 : ∀ w ∈ u_ws RX2 TX2 12, w ∈ wsX2_init := by decide +kernel
  have z6 := hts (.fieldLink RX2 9 "LittleSums$PairingSearch" "first" "[I") (by decide +kernel)
  have z7 := hts (.fieldLink RX2 15 "LittleSums$PairingSearch" "second" "[I") (by decide +kernel)
  have z8 := hts (.fieldLink RX2 18 "LittleSums$PairingSearch" "chosen" "[I") (by decide +kernel)
  have z9 := hts (.fieldLink RX2 21 "LittleSums$PairingSearch" "there" "[I") (by decide +kernel)
  have z10 := hts (.fieldLink RX2 24 "LittleSums$PairingSearch" "back" "[I") (by decide +kernel)
  have z11 := hts (.fieldLink RX2 27 "LittleSums$PairingSearch" "uses" "[I") (by decide +kernel)
  have z12 := hts (.fieldLink RX2 30 "LittleSums$PairingSearch" "partnerUses" "[I") (by decide +kernel)
  refine lv_aload_n hx hb dX2_init_0 rfl (lv_at hl 0 rfl) ?_
  refine W.objInit hx hb hown z1 z2 z3 rfl (by rw [hml]; exact hl.1) rfl dX2_init_1 (Nat.le_of_ble_eq_true rfl) (Nat.le_of_ble_eq_true rfl) ?_
  refine W.eq (g2 := F0 m 4 ls []) rfl ?_
  refine lv_aload_n hx hb dX2_init_4 rfl (lv_at hl 0 rfl) ?_
  refine lv_bipush (v := 7) hx hb dX2_init_5 (by decide) ?_
  refine va_newa (atype := .int) (N' := 7) (a0 := (7, .inl (fun _ => 0))) hx hb z4 rfl hN.1 hP hD hS hA (fun _ => rfl) (by decide) (by decide) (by decide) (Nat.le_of_ble_eq_true rfl) (Nat.le_of_ble_eq_true rfl) dX2_init_7 (fun q7 cA H hK1 hP hD hS => ?_)
  have eA := arr_cI hK1
  rw [eA] at hP hD
  have hP : va_P D vwCl [(a_this, .inr (2, [.null, .null, .null, .null, .null, .null, .null, .long 0, .long 0, .int 0, .int 0, .int 0])), (q7, .inl (cI, 7, .inl (fun _ => 0)))] H := hP
  have hD : va_D A [(a_this, .inr (2, [.null, .null, .null, .null, .null, .null, .null, .long 0, .long 0, .int 0, .int 0, .int 0])), (q7, .inl (cI, 7, .inl (fun _ => 0)))] := hD
  clear eA hK1
  refine W.widen (k := 1) (n := 7) (Nat.le_of_ble_eq_true rfl) (Nat.le_of_ble_eq_true rfl) ?_
  refine va_putF (D := D) (ci := 2) (v := .ref q7) (ty := .array .int) (C := RX2) (T := TX2) (N := 12) hx hb hts z5 tyX2 tyX2_ok nmX2 hown hN.1 hP hD hS 0 rfl rfl 0 (by decide) z6 (fun _ h9 => h9) rfl hin rfl (by decide +kernel) rfl rfl (Nat.le_of_ble_eq_true rfl) dX2_init_9 (fun H locs hP hD hS => ?_)
  have hP : va_P D vwCl [(a_this, .inr (2, [.ref q7, .null, .null, .null, .null, .null, .null, .long 0, .long 0, .int 0, .int 0, .int 0])), (q7, .inl (cI, 7, .inl (fun _ => 0)))] H := hP
  have hD : va_D A [(a_this, .inr (2, [.ref q7, .null, .null, .null, .null, .null, .null, .long 0, .long 0, .int 0, .int 0, .int 0])), (q7, .inl (cI, 7, .inl (fun _ => 0)))] := hD
  refine lv_aload_n hx hb dX2_init_12 rfl (lv_at hl 0 rfl) ?_
  refine lv_bipush (v := 7) hx hb dX2_init_13 (by decide) ?_
  refine va_newa (atype := .int) (N' := 7) (a0 := (7, .inl (fun _ => 0))) hx hb z4 rfl hN.1 hP hD hS hA (fun _ => rfl) (by decide) (by decide) (by decide) (Nat.le_of_ble_eq_true rfl) (Nat.le_of_ble_eq_true rfl) dX2_init_15 (fun q15 cA H hK1 hP hD hS => ?_)
  have eA := arr_cI hK1
  rw [eA] at hP hD
  have hP : va_P D vwCl [(a_this, .inr (2, [.ref q7, .null, .null, .null, .null, .null, .null, .long 0, .long 0, .int 0, .int 0, .int 0])), (q7, .inl (cI, 7, .inl (fun _ => 0))), (q15, .inl (cI, 7, .inl (fun _ => 0)))] H := hP
  have hD : va_D A [(a_this, .inr (2, [.ref q7, .null, .null, .null, .null, .null, .null, .long 0, .long 0, .int 0, .int 0, .int 0])), (q7, .inl (cI, 7, .inl (fun _ => 0))), (q15, .inl (cI, 7, .inl (fun _ => 0)))] := hD
  clear eA hK1
  refine W.widen (k := 2) (n := 14) (Nat.le_of_ble_eq_true rfl) (Nat.le_of_ble_eq_true rfl) ?_
  refine va_putF (D := D) (ci := 2) (v := .ref q15) (ty := .array .int) (C := RX2) (T := TX2) (N := 12) hx hb hts z5 tyX2 tyX2_ok nmX2 hown hN.1 hP hD hS 0 rfl rfl 1 (by decide) z7 (fun _ h9 => h9) rfl hin rfl (by decide +kernel) rfl rfl (Nat.le_of_ble_eq_true rfl) dX2_init_17 (fun H locs hP hD hS => ?_)
  have hP : va_P D vwCl [(a_this, .inr (2, [.ref q7, .ref q15, .null, .null, .null, .null, .null, .long 0, .long 0, .int 0, .int 0, .int 0])), (q7, .inl (cI, 7, .inl (fun _ => 0))), (q15, .inl (cI, 7, .inl (fun _ => 0)))] H := hP
  have hD : va_D A [(a_this, .inr (2, [.ref q7, .ref q15, .null, .null, .null, .null, .null, .long 0, .long 0, .int 0, .int 0, .int 0])), (q7, .inl (cI, 7, .inl (fun _ => 0))), (q15, .inl (cI, 7, .inl (fun _ => 0)))] := hD
  refine lv_aload_n hx hb dX2_init_20 rfl (lv_at hl 0 rfl) ?_
  refine lv_bipush (v := 7) hx hb dX2_init_21 (by decide) ?_
  refine va_newa (atype := .int) (N' := 7) (a0 := (7, .inl (fun _ => 0))) hx hb z4 rfl hN.1 hP hD hS hA (fun _ => rfl) (by decide) (by decide) (by decide) (Nat.le_of_ble_eq_true rfl) (Nat.le_of_ble_eq_true rfl) dX2_init_23 (fun q23 cA H hK1 hP hD hS => ?_)
  have eA := arr_cI hK1
  rw [eA] at hP hD
  have hP : va_P D vwCl [(a_this, .inr (2, [.ref q7, .ref q15, .null, .null, .null, .null, .null, .long 0, .long 0, .int 0, .int 0, .int 0])), (q7, .inl (cI, 7, .inl (fun _ => 0))), (q15, .inl (cI, 7, .inl (fun _ => 0))), (q23, .inl (cI, 7, .inl (fun _ => 0)))] H := hP
  have hD : va_D A [(a_this, .inr (2, [.ref q7, .ref q15, .null, .null, .null, .null, .null, .long 0, .long 0, .int 0, .int 0, .int 0])), (q7, .inl (cI, 7, .inl (fun _ => 0))), (q15, .inl (cI, 7, .inl (fun _ => 0))), (q23, .inl (cI, 7, .inl (fun _ => 0)))] := hD
  clear eA hK1
  refine W.widen (k := 3) (n := 21) (Nat.le_of_ble_eq_true rfl) (Nat.le_of_ble_eq_true rfl) ?_
  refine va_putF (D := D) (ci := 2) (v := .ref q23) (ty := .array .int) (C := RX2) (T := TX2) (N := 12) hx hb hts z5 tyX2 tyX2_ok nmX2 hown hN.1 hP hD hS 0 rfl rfl 2 (by decide) z8 (fun _ h9 => h9) rfl hin rfl (by decide +kernel) rfl rfl (Nat.le_of_ble_eq_true rfl) dX2_init_25 (fun H locs hP hD hS => ?_)
  have hP : va_P D vwCl [(a_this, .inr (2, [.ref q7, .ref q15, .ref q23, .null, .null, .null, .null, .long 0, .long 0, .int 0, .int 0, .int 0])), (q7, .inl (cI, 7, .inl (fun _ => 0))), (q15, .inl (cI, 7, .inl (fun _ => 0))), (q23, .inl (cI, 7, .inl (fun _ => 0)))] H := hP
  have hD : va_D A [(a_this, .inr (2, [.ref q7, .ref q15, .ref q23, .null, .null, .null, .null, .long 0, .long 0, .int 0, .int 0, .int 0])), (q7, .inl (cI, 7, .inl (fun _ => 0))), (q15, .inl (cI, 7, .inl (fun _ => 0))), (q23, .inl (cI, 7, .inl (fun _ => 0)))] := hD
  refine lv_aload_n hx hb dX2_init_28 rfl (lv_at hl 0 rfl) ?_
  refine lv_bipush (v := 81) hx hb dX2_init_29 (by decide) ?_
  refine va_newa (atype := .int) (N' := 81) (a0 := (81, .inl (fun _ => 0))) hx hb z4 rfl hN.1 hP hD hS hA (fun _ => rfl) (by decide) (by decide) (by decide) (Nat.le_of_ble_eq_true rfl) (Nat.le_of_ble_eq_true rfl) dX2_init_31 (fun q31 cA H hK1 hP hD hS => ?_)
  have eA := arr_cI hK1
  rw [eA] at hP hD
  have hP : va_P D vwCl [(a_this, .inr (2, [.ref q7, .ref q15, .ref q23, .null, .null, .null, .null, .long 0, .long 0, .int 0, .int 0, .int 0])), (q7, .inl (cI, 7, .inl (fun _ => 0))), (q15, .inl (cI, 7, .inl (fun _ => 0))), (q23, .inl (cI, 7, .inl (fun _ => 0))), (q31, .inl (cI, 81, .inl (fun _ => 0)))] H := hP
  have hD : va_D A [(a_this, .inr (2, [.ref q7, .ref q15, .ref q23, .null, .null, .null, .null, .long 0, .long 0, .int 0, .int 0, .int 0])), (q7, .inl (cI, 7, .inl (fun _ => 0))), (q15, .inl (cI, 7, .inl (fun _ => 0))), (q23, .inl (cI, 7, .inl (fun _ => 0))), (q31, .inl (cI, 81, .inl (fun _ => 0)))] := hD
  clear eA hK1
  refine W.widen (k := 4) (n := 102) (Nat.le_of_ble_eq_true rfl) (Nat.le_of_ble_eq_true rfl) ?_
  refine va_putF (D := D) (ci := 2) (v := .ref q31) (ty := .array .int) (C := RX2) (T := TX2) (N := 12) hx hb hts z5 tyX2 tyX2_ok nmX2 hown hN.1 hP hD hS 0 rfl rfl 3 (by decide) z9 (fun _ h9 => h9) rfl hin rfl (by decide +kernel) rfl rfl (Nat.le_of_ble_eq_true rfl) dX2_init_33 (fun H locs hP hD hS => ?_)
  have hP : va_P D vwCl [(a_this, .inr (2, [.ref q7, .ref q15, .ref q23, .ref q31, .null, .null, .null, .long 0, .long 0, .int 0, .int 0, .int 0])), (q7, .inl (cI, 7, .inl (fun _ => 0))), (q15, .inl (cI, 7, .inl (fun _ => 0))), (q23, .inl (cI, 7, .inl (fun _ => 0))), (q31, .inl (cI, 81, .inl (fun _ => 0)))] H := hP
  have hD : va_D A [(a_this, .inr (2, [.ref q7, .ref q15, .ref q23, .ref q31, .null, .null, .null, .long 0, .long 0, .int 0, .int 0, .int 0])), (q7, .inl (cI, 7, .inl (fun _ => 0))), (q15, .inl (cI, 7, .inl (fun _ => 0))), (q23, .inl (cI, 7, .inl (fun _ => 0))), (q31, .inl (cI, 81, .inl (fun _ => 0)))] := hD
  refine lv_aload_n hx hb dX2_init_36 rfl (lv_at hl 0 rfl) ?_
  refine lv_bipush (v := 81) hx hb dX2_init_37 (by decide) ?_
  refine va_newa (atype := .int) (N' := 81) (a0 := (81, .inl (fun _ => 0))) hx hb z4 rfl hN.1 hP hD hS hA (fun _ => rfl) (by decide) (by decide) (by decide) (Nat.le_of_ble_eq_true rfl) (Nat.le_of_ble_eq_true rfl) dX2_init_39 (fun q39 cA H hK1 hP hD hS => ?_)
  have eA := arr_cI hK1
  rw [eA] at hP hD
  have hP : va_P D vwCl [(a_this, .inr (2, [.ref q7, .ref q15, .ref q23, .ref q31, .null, .null, .null, .long 0, .long 0, .int 0, .int 0, .int 0])), (q7, .inl (cI, 7, .inl (fun _ => 0))), (q15, .inl (cI, 7, .inl (fun _ => 0))), (q23, .inl (cI, 7, .inl (fun _ => 0))), (q31, .inl (cI, 81, .inl (fun _ => 0))), (q39, .inl (cI, 81, .inl (fun _ => 0)))] H := hP
  have hD : va_D A [(a_this, .inr (2, [.ref q7, .ref q15, .ref q23, .ref q31, .null, .null, .null, .long 0, .long 0, .int 0, .int 0, .int 0])), (q7, .inl (cI, 7, .inl (fun _ => 0))), (q15, .inl (cI, 7, .inl (fun _ => 0))), (q23, .inl (cI, 7, .inl (fun _ => 0))), (q31, .inl (cI, 81, .inl (fun _ => 0))), (q39, .inl (cI, 81, .inl (fun _ => 0)))] := hD
  clear eA hK1
  refine W.widen (k := 5) (n := 183) (Nat.le_of_ble_eq_true rfl) (Nat.le_of_ble_eq_true rfl) ?_
  refine va_putF (D := D) (ci := 2) (v := .ref q39) (ty := .array .int) (C := RX2) (T := TX2) (N := 12) hx hb hts z5 tyX2 tyX2_ok nmX2 hown hN.1 hP hD hS 0 rfl rfl 4 (by decide) z10 (fun _ h9 => h9) rfl hin rfl (by decide +kernel) rfl rfl (Nat.le_of_ble_eq_true rfl) dX2_init_41 (fun H locs hP hD hS => ?_)
  have hP : va_P D vwCl [(a_this, .inr (2, [.ref q7, .ref q15, .ref q23, .ref q31, .ref q39, .null, .null, .long 0, .long 0, .int 0, .int 0, .int 0])), (q7, .inl (cI, 7, .inl (fun _ => 0))), (q15, .inl (cI, 7, .inl (fun _ => 0))), (q23, .inl (cI, 7, .inl (fun _ => 0))), (q31, .inl (cI, 81, .inl (fun _ => 0))), (q39, .inl (cI, 81, .inl (fun _ => 0)))] H := hP
  have hD : va_D A [(a_this, .inr (2, [.ref q7, .ref q15, .ref q23, .ref q31, .ref q39, .null, .null, .long 0, .long 0, .int 0, .int 0, .int 0])), (q7, .inl (cI, 7, .inl (fun _ => 0))), (q15, .inl (cI, 7, .inl (fun _ => 0))), (q23, .inl (cI, 7, .inl (fun _ => 0))), (q31, .inl (cI, 81, .inl (fun _ => 0))), (q39, .inl (cI, 81, .inl (fun _ => 0)))] := hD
  refine lv_aload_n hx hb dX2_init_44 rfl (lv_at hl 0 rfl) ?_
  refine lv_bipush (v := 81) hx hb dX2_init_45 (by decide) ?_
  refine va_newa (atype := .int) (N' := 81) (a0 := (81, .inl (fun _ => 0))) hx hb z4 rfl hN.1 hP hD hS hA (fun _ => rfl) (by decide) (by decide) (by decide) (Nat.le_of_ble_eq_true rfl) (Nat.le_of_ble_eq_true rfl) dX2_init_47 (fun q47 cA H hK1 hP hD hS => ?_)
  have eA := arr_cI hK1
  rw [eA] at hP hD
  have hP : va_P D vwCl [(a_this, .inr (2, [.ref q7, .ref q15, .ref q23, .ref q31, .ref q39, .null, .null, .long 0, .long 0, .int 0, .int 0, .int 0])), (q7, .inl (cI, 7, .inl (fun _ => 0))), (q15, .inl (cI, 7, .inl (fun _ => 0))), (q23, .inl (cI, 7, .inl (fun _ => 0))), (q31, .inl (cI, 81, .inl (fun _ => 0))), (q39, .inl (cI, 81, .inl (fun _ => 0))), (q47, .inl (cI, 81, .inl (fun _ => 0)))] H := hP
  have hD : va_D A [(a_this, .inr (2, [.ref q7, .ref q15, .ref q23, .ref q31, .ref q39, .null, .null, .long 0, .long 0, .int 0, .int 0, .int 0])), (q7, .inl (cI, 7, .inl (fun _ => 0))), (q15, .inl (cI, 7, .inl (fun _ => 0))), (q23, .inl (cI, 7, .inl (fun _ => 0))), (q31, .inl (cI, 81, .inl (fun _ => 0))), (q39, .inl (cI, 81, .inl (fun _ => 0))), (q47, .inl (cI, 81, .inl (fun _ => 0)))] := hD
  clear eA hK1
  refine W.widen (k := 6) (n := 264) (Nat.le_of_ble_eq_true rfl) (Nat.le_of_ble_eq_true rfl) ?_
  refine va_putF (D := D) (ci := 2) (v := .ref q47) (ty := .array .int) (C := RX2) (T := TX2) (N := 12) hx hb hts z5 tyX2 tyX2_ok nmX2 hown hN.1 hP hD hS 0 rfl rfl 5 (by decide) z11 (fun _ h9 => h9) rfl hin rfl (by decide +kernel) rfl rfl (Nat.le_of_ble_eq_true rfl) dX2_init_49 (fun H locs hP hD hS => ?_)
  have hP : va_P D vwCl [(a_this, .inr (2, [.ref q7, .ref q15, .ref q23, .ref q31, .ref q39, .ref q47, .null, .long 0, .long 0, .int 0, .int 0, .int 0])), (q7, .inl (cI, 7, .inl (fun _ => 0))), (q15, .inl (cI, 7, .inl (fun _ => 0))), (q23, .inl (cI, 7, .inl (fun _ => 0))), (q31, .inl (cI, 81, .inl (fun _ => 0))), (q39, .inl (cI, 81, .inl (fun _ => 0))), (q47, .inl (cI, 81, .inl (fun _ => 0)))] H := hP
  have hD : va_D A [(a_this, .inr (2, [.ref q7, .ref q15, .ref q23, .ref q31, .ref q39, .ref q47, .null, .long 0, .long 0, .int 0, .int 0, .int 0])), (q7, .inl (cI, 7, .inl (fun _ => 0))), (q15, .inl (cI, 7, .inl (fun _ => 0))), (q23, .inl (cI, 7, .inl (fun _ => 0))), (q31, .inl (cI, 81, .inl (fun _ => 0))), (q39, .inl (cI, 81, .inl (fun _ => 0))), (q47, .inl (cI, 81, .inl (fun _ => 0)))] := hD
  refine lv_aload_n hx hb dX2_init_52 rfl (lv_at hl 0 rfl) ?_
  refine lv_bipush (v := 81) hx hb dX2_init_53 (by decide) ?_
  refine va_newa (atype := .int) (N' := 81) (a0 := (81, .inl (fun _ => 0))) hx hb z4 rfl hN.1 hP hD hS hA (fun _ => rfl) (by decide) (by decide) (by decide) (Nat.le_of_ble_eq_true rfl) (Nat.le_of_ble_eq_true rfl) dX2_init_55 (fun q55 cA H hK1 hP hD hS => ?_)
  have eA := arr_cI hK1
  rw [eA] at hP hD
  have hP : va_P D vwCl [(a_this, .inr (2, [.ref q7, .ref q15, .ref q23, .ref q31, .ref q39, .ref q47, .null, .long 0, .long 0, .int 0, .int 0, .int 0])), (q7, .inl (cI, 7, .inl (fun _ => 0))), (q15, .inl (cI, 7, .inl (fun _ => 0))), (q23, .inl (cI, 7, .inl (fun _ => 0))), (q31, .inl (cI, 81, .inl (fun _ => 0))), (q39, .inl (cI, 81, .inl (fun _ => 0))), (q47, .inl (cI, 81, .inl (fun _ => 0))), (q55, .inl (cI, 81, .inl (fun _ => 0)))] H := hP
  have hD : va_D A [(a_this, .inr (2, [.ref q7, .ref q15, .ref q23, .ref q31, .ref q39, .ref q47, .null, .long 0, .long 0, .int 0, .int 0, .int 0])), (q7, .inl (cI, 7, .inl (fun _ => 0))), (q15, .inl (cI, 7, .inl (fun _ => 0))), (q23, .inl (cI, 7, .inl (fun _ => 0))), (q31, .inl (cI, 81, .inl (fun _ => 0))), (q39, .inl (cI, 81, .inl (fun _ => 0))), (q47, .inl (cI, 81, .inl (fun _ => 0))), (q55, .inl (cI, 81, .inl (fun _ => 0)))] := hD
  clear eA hK1
  refine W.widen (k := 7) (n := 345) (Nat.le_of_ble_eq_true rfl) (Nat.le_of_ble_eq_true rfl) ?_
  refine va_putF (D := D) (ci := 2) (v := .ref q55) (ty := .array .int) (C := RX2) (T := TX2) (N := 12) hx hb hts z5 tyX2 tyX2_ok nmX2 hown hN.1 hP hD hS 0 rfl rfl 6 (by decide) z12 (fun _ h9 => h9) rfl hin rfl (by decide +kernel) rfl rfl (Nat.le_of_ble_eq_true rfl) dX2_init_57 (fun H locs hP hD hS => ?_)
  have hP : va_P D vwCl [(a_this, .inr (2, [.ref q7, .ref q15, .ref q23, .ref q31, .ref q39, .ref q47, .ref q55, .long 0, .long 0, .int 0, .int 0, .int 0])), (q7, .inl (cI, 7, .inl (fun _ => 0))), (q15, .inl (cI, 7, .inl (fun _ => 0))), (q23, .inl (cI, 7, .inl (fun _ => 0))), (q31, .inl (cI, 81, .inl (fun _ => 0))), (q39, .inl (cI, 81, .inl (fun _ => 0))), (q47, .inl (cI, 81, .inl (fun _ => 0))), (q55, .inl (cI, 81, .inl (fun _ => 0)))] H := hP
  have hD : va_D A [(a_this, .inr (2, [.ref q7, .ref q15, .ref q23, .ref q31, .ref q39, .ref q47, .ref q55, .long 0, .long 0, .int 0, .int 0, .int 0])), (q7, .inl (cI, 7, .inl (fun _ => 0))), (q15, .inl (cI, 7, .inl (fun _ => 0))), (q23, .inl (cI, 7, .inl (fun _ => 0))), (q31, .inl (cI, 81, .inl (fun _ => 0))), (q39, .inl (cI, 81, .inl (fun _ => 0))), (q47, .inl (cI, 81, .inl (fun _ => 0))), (q55, .inl (cI, 81, .inl (fun _ => 0)))] := hD
  exact rtN (q7, q15, q23, q31, q39, q47, q55) hx hb hr hlk hP hD hS dX2_init_60
abbrev rmX3_init : Room := { frames := 1, cells := 2, slots := 204, locals := 64 }
set_option maxHeartbeats 4000000 in
set_option maxRecDepth 100000 in
theorem cX3_init_ct (l : Launch) (D : va_G) (cI cL cC cZ : ClassId) (a_this : Nat) : CtN l yX3_init wsX3_init rmX3_init D (tyz cI cL cC cZ) [.ref a_this] [(a_this, .inr (3, [.null, .null, .int 0, .long 0]))] (fun (u : Nat × Nat) => [(a_this, .inr (3, [.ref u.1, .ref u.2, .int 0, .long 0])), (u.1, .inl (cC, 200, .inl (fun _ => 0))), (u.2, .inl (cL, 4, .inr (.inl (fun _ => 0))))]) 2 204 := by
  refine CtN.make (cc := cX3_init) (maxL := 1) (by decide) rfl (Nat.le_of_ble_eq_true rfl) ?_
  intro p e s m below meth c A ls C0 hin hN hA hP hD hl
  obtain ⟨hx, hb, hr, hml, hown, hts, hlk⟩ := id C0
  have hown : s.vm.findClass RX3 = some m.cls := hown
  have hS : va_S A s.heap s.heap [] := va_S.rf
  have hl : lv_has ls 1 [(0, .ref a_this)] := hl
  have z1 := hts (.methodLink RX3 3 objectInit) (by decide +kernel)
  have z2 := hts (.instanceMethod objectInit) (by decide +kernel)
  have z3 : (Cond.code objectInit ⟨#[0xb1]⟩ 1 none).before _ s = true := hts _ (List.mem_of_getElem? (i := 3) rfl)
  have z4 := hts (.arrayClass .char) (by decide +kernel)
  have z5 : ∀ w ∈ u_ws RX3 TX3 4, w ∈ wsX3_init := by decide +kernel
  have z6 := hts (.fieldLink RX3 11 "LittleSums$Script" "letters" "[C") (by decide +kernel)
  have z7 := hts (.arrayClass .long) (by decide +kernel)
  have z8 := hts (.fieldLink RX3 15 "LittleSums$Script" "sets" "[J") (by decide +kernel)
  refine lv_aload_n hx hb dX3_init_0 rfl (lv_at hl 0 rfl) ?_
  refine W.objInit hx hb hown z1 z2 z3 rfl (by rw [hml]; exact hl.1) rfl dX3_init_1 (Nat.le_of_ble_eq_true rfl) (Nat.le_of_ble_eq_true rfl) ?_
  refine W.eq (g2 := F0 m 4 ls []) rfl ?_
  refine lv_aload_n hx hb dX3_init_4 rfl (lv_at hl 0 rfl) ?_
  refine lv_sipush (v := 200) hx hb dX3_init_5 (by decide) ?_
  refine va_newa (atype := .char) (N' := 200) (a0 := (200, .inl (fun _ => 0))) hx hb z4 rfl hN.1 hP hD hS hA (fun _ => rfl) (by decide) (by decide) (by decide) (Nat.le_of_ble_eq_true rfl) (Nat.le_of_ble_eq_true rfl) dX3_init_8 (fun q8 cA H hK1 hP hD hS => ?_)
  have eA := arr_cC hK1
  rw [eA] at hP hD
  have hP : va_P D vwCl [(a_this, .inr (3, [.null, .null, .int 0, .long 0])), (q8, .inl (cC, 200, .inl (fun _ => 0)))] H := hP
  have hD : va_D A [(a_this, .inr (3, [.null, .null, .int 0, .long 0])), (q8, .inl (cC, 200, .inl (fun _ => 0)))] := hD
  clear eA hK1
  refine W.widen (k := 1) (n := 200) (Nat.le_of_ble_eq_true rfl) (Nat.le_of_ble_eq_true rfl) ?_
  refine va_putF (D := D) (ci := 3) (v := .ref q8) (ty := .array .char) (C := RX3) (T := TX3) (N := 4) hx hb hts z5 tyX3 tyX3_ok nmX3 hown hN.1 hP hD hS 0 rfl rfl 0 (by decide) z6 (fun _ h9 => h9) rfl hin rfl (by decide +kernel) rfl rfl (Nat.le_of_ble_eq_true rfl) dX3_init_10 (fun H locs hP hD hS => ?_)
  have hP : va_P D vwCl [(a_this, .inr (3, [.ref q8, .null, .int 0, .long 0])), (q8, .inl (cC, 200, .inl (fun _ => 0)))] H := hP
  have hD : va_D A [(a_this, .inr (3, [.ref q8, .null, .int 0, .long 0])), (q8, .inl (cC, 200, .inl (fun _ => 0)))] := hD
  refine lv_aload_n hx hb dX3_init_13 rfl (lv_at hl 0 rfl) ?_
  refine lv_iconst (v := 4) hx hb dX3_init_14 (by decide) ?_
  refine va_newa (atype := .long) (N' := 4) (a0 := (4, .inr (.inl (fun _ => 0)))) hx hb z7 rfl hN.1 hP hD hS hA (fun _ => rfl) (by decide) (by decide) (by decide) (Nat.le_of_ble_eq_true rfl) (Nat.le_of_ble_eq_true rfl) dX3_init_15 (fun q15 cA H hK1 hP hD hS => ?_)
  have eA := arr_cL hK1
  rw [eA] at hP hD
  have hP : va_P D vwCl [(a_this, .inr (3, [.ref q8, .null, .int 0, .long 0])), (q8, .inl (cC, 200, .inl (fun _ => 0))), (q15, .inl (cL, 4, .inr (.inl (fun _ => 0))))] H := hP
  have hD : va_D A [(a_this, .inr (3, [.ref q8, .null, .int 0, .long 0])), (q8, .inl (cC, 200, .inl (fun _ => 0))), (q15, .inl (cL, 4, .inr (.inl (fun _ => 0))))] := hD
  clear eA hK1
  refine W.widen (k := 2) (n := 204) (Nat.le_of_ble_eq_true rfl) (Nat.le_of_ble_eq_true rfl) ?_
  refine va_putF (D := D) (ci := 3) (v := .ref q15) (ty := .array .long) (C := RX3) (T := TX3) (N := 4) hx hb hts z5 tyX3 tyX3_ok nmX3 hown hN.1 hP hD hS 0 rfl rfl 1 (by decide) z8 (fun _ h9 => h9) rfl hin rfl (by decide +kernel) rfl rfl (Nat.le_of_ble_eq_true rfl) dX3_init_17 (fun H locs hP hD hS => ?_)
  have hP : va_P D vwCl [(a_this, .inr (3, [.ref q8, .ref q15, .int 0, .long 0])), (q8, .inl (cC, 200, .inl (fun _ => 0))), (q15, .inl (cL, 4, .inr (.inl (fun _ => 0))))] H := hP
  have hD : va_D A [(a_this, .inr (3, [.ref q8, .ref q15, .int 0, .long 0])), (q8, .inl (cC, 200, .inl (fun _ => 0))), (q15, .inl (cL, 4, .inr (.inl (fun _ => 0))))] := hD
  exact rtN (q8, q15) hx hb hr hlk hP hD hS dX3_init_20
abbrev rmX4_init : Room := { frames := 1, cells := 0, slots := 0, locals := 64 }
set_option maxHeartbeats 4000000 in
set_option maxRecDepth 100000 in
theorem cX4_init_ct (l : Launch) (D : va_G) (cI cL cC cZ : ClassId) (a_this : Nat) : CtN l yX4_init wsX4_init rmX4_init D (tyz cI cL cC cZ) [.ref a_this] [(a_this, .inr (4, [.int 0, .int 0, .int 0, .int 0]))] (fun (u : Unit) => [(a_this, .inr (4, [.int 0, .int 0, .int 0, .int 0]))]) 0 0 := by
  refine CtN.make (cc := cX4_init) (maxL := 1) (by decide) rfl (Nat.le_of_ble_eq_true rfl) ?_
  intro p e s m below meth c A ls C0 hin hN hA hP hD hl
  obtain ⟨hx, hb, hr, hml, hown, hts, hlk⟩ := id C0
  have hown : s.vm.findClass RX4 = some m.cls := hown
  have hS : va_S A s.heap s.heap [] := va_S.rf
  have hl : lv_has ls 1 [(0, .ref a_this)] := hl
  have z1 := hts (.methodLink RX4 3 objectInit) (by decide +kernel)
  have z2 := hts (.instanceMethod objectInit) (by decide +kernel)
  have z3 : (Cond.code objectInit ⟨#[0xb1]⟩ 1 none).before _ s = true := hts _ (List.mem_of_getElem? (i := 3) rfl)
  refine lv_aload_n hx hb dX4_init_0 rfl (lv_at hl 0 rfl) ?_
  refine W.objInit hx hb hown z1 z2 z3 rfl (by rw [hml]; exact hl.1) rfl dX4_init_1 (Nat.le_of_ble_eq_true rfl) (Nat.le_of_ble_eq_true rfl) ?_
  refine W.eq (g2 := F0 m 4 ls []) rfl ?_
  exact rtN () hx hb hr hlk hP hD hS dX4_init_4
abbrev rmX5_init : Room := { frames := 1, cells := 3, slots := 38, locals := 64 }
set_option maxHeartbeats 4000000 in
set_option maxRecDepth 100000 in
theorem cX5_init_ct (l : Launch) (D : va_G) (cI cL cC cZ : ClassId) (a_this : Nat) : CtN l yX5_init wsX5_init rmX5_init D (tyz cI cL cC cZ) [.ref a_this] [(a_this, .inr (5, [.null, .null, .null, .long 0, .long 0, .int 0, .int 0, .int 0]))] (fun (u : Nat × Nat × Nat) => [(a_this, .inr (5, [.ref u.1, .ref u.2.1, .ref u.2.2, .long 0, .long 0, .int 0, .int 0, .int 0])), (u.1, .inl (cI, 12, .inl (fun _ => 0))), (u.2.1, .inl (cL, 13, .inr (.inl (fun _ => 0)))), (u.2.2, .inl (cL, 13, .inr (.inl (fun _ => 0))))]) 3 38 := by
  refine CtN.make (cc := cX5_init) (maxL := 1) (by decide) rfl (Nat.le_of_ble_eq_true rfl) ?_
  intro p e s m below meth c A ls C0 hin hN hA hP hD hl
  obtain ⟨hx, hb, hr, hml, hown, hts, hlk⟩ := id C0
  have hown : s.vm.findClass RX5 = some m.cls := hown
  have hS : va_S A s.heap s.heap [] := va_S.rf
  have hl : lv_has ls 1 [(0, .ref a_this)] := hl
  have z1 := hts (.methodLink RX5 3 objectInit) (by decide +kernel)
  have z2 := hts (.instanceMethod objectInit) (by decide +kernel)
  have z3 : (Cond.code objectInit ⟨#[0xb1]⟩ 1 none).before _ s = true := hts _ (List.mem_of_getElem? (i := 3) rfl)
  have z4 := hts (.arrayClass .int) (by decide +kernel)
  have z5 : ∀ w ∈ u_ws RX5 TX5 8, w ∈ wsX5_init := by decide +kernel
  have z6 := hts (.fieldLink RX5 9 "LittleSums$SwellingSearch" "numbers" "[I") (by decide +kernel)
  have z7 := hts (.arrayClass .long) (by decide +kernel)
  have z8 := hts (.fieldLink RX5 15 "LittleSums$SwellingSearch" "low" "[J") (by decide +kernel)
  have z9 := hts (.fieldLink RX5 19 "LittleSums$SwellingSearch" "high" "[J") (by decide +kernel)
  refine lv_aload_n hx hb dX5_init_0 rfl (lv_at hl 0 rfl) ?_
  refine W.objInit hx hb hown z1 z2 z3 rfl (by rw [hml]; exact hl.1) rfl dX5_init_1 (Nat.le_of_ble_eq_true rfl) (Nat.le_of_ble_eq_true rfl) ?_
  refine W.eq (g2 := F0 m 4 ls []) rfl ?_
  refine lv_aload_n hx hb dX5_init_4 rfl (lv_at hl 0 rfl) ?_
  refine lv_bipush (v := 12) hx hb dX5_init_5 (by decide) ?_
  refine va_newa (atype := .int) (N' := 12) (a0 := (12, .inl (fun _ => 0))) hx hb z4 rfl hN.1 hP hD hS hA (fun _ => rfl) (by decide) (by decide) (by decide) (Nat.le_of_ble_eq_true rfl) (Nat.le_of_ble_eq_true rfl) dX5_init_7 (fun q7 cA H hK1 hP hD hS => ?_)
  have eA := arr_cI hK1
  rw [eA] at hP hD
  have hP : va_P D vwCl [(a_this, .inr (5, [.null, .null, .null, .long 0, .long 0, .int 0, .int 0, .int 0])), (q7, .inl (cI, 12, .inl (fun _ => 0)))] H := hP
  have hD : va_D A [(a_this, .inr (5, [.null, .null, .null, .long 0, .long 0, .int 0, .int 0, .int 0])), (q7, .inl (cI, 12, .inl (fun _ => 0)))] := hD
  clear eA hK1
  refine W.widen (k := 1) (n := 12) (Nat.le_of_ble_eq_true rfl) (Nat.le_of_ble_eq_true rfl) ?_
  refine va_putF (D := D) (ci := 5) (v := .ref q7) (ty := .array .int) (C := RX5) (T := TX5) (N := 8) hx hb hts z5 tyX5 tyX5_ok nmX5 hown hN.1 hP hD hS 0 rfl rfl 0 (by decide) z6 (fun _ h9 => h9) rfl hin rfl (by decide +kernel) rfl rfl (Nat.le_of_ble_eq_true rfl) dX5_init_9 (fun H locs hP hD hS => ?_)
  have hP : va_P D vwCl [(a_this, .inr (5, [.ref q7, .null, .null, .long 0, .long 0, .int 0, .int 0, .int 0])), (q7, .inl (cI, 12, .inl (fun _ => 0)))] H := hP
  have hD : va_D A [(a_this, .inr (5, [.ref q7, .null, .null, .long 0, .long 0, .int 0, .int 0, .int 0])), (q7, .inl (cI, 12, .inl (fun _ => 0)))] := hD
  refine lv_aload_n hx hb dX5_init_12 rfl (lv_at hl 0 rfl) ?_
  refine lv_bipush (v := 13) hx hb dX5_init_13 (by decide) ?_
  refine va_newa (atype := .long) (N' := 13) (a0 := (13, .inr (.inl (fun _ => 0)))) hx hb z7 rfl hN.1 hP hD hS hA (fun _ => rfl) (by decide) (by decide) (by decide) (Nat.le_of_ble_eq_true rfl) (Nat.le_of_ble_eq_true rfl) dX5_init_15 (fun q15 cA H hK1 hP hD hS => ?_)
  have eA := arr_cL hK1
  rw [eA] at hP hD
  have hP : va_P D vwCl [(a_this, .inr (5, [.ref q7, .null, .null, .long 0, .long 0, .int 0, .int 0, .int 0])), (q7, .inl (cI, 12, .inl (fun _ => 0))), (q15, .inl (cL, 13, .inr (.inl (fun _ => 0))))] H := hP
  have hD : va_D A [(a_this, .inr (5, [.ref q7, .null, .null, .long 0, .long 0, .int 0, .int 0, .int 0])), (q7, .inl (cI, 12, .inl (fun _ => 0))), (q15, .inl (cL, 13, .inr (.inl (fun _ => 0))))] := hD
  clear eA hK1
  refine W.widen (k := 2) (n := 25) (Nat.le_of_ble_eq_true rfl) (Nat.le_of_ble_eq_true rfl) ?_
  refine va_putF (D := D) (ci := 5) (v := .ref q15) (ty := .array .long) (C := RX5) (T := TX5) (N := 8) hx hb hts z5 tyX5 tyX5_ok nmX5 hown hN.1 hP hD hS 0 rfl rfl 1 (by decide) z8 (fun _ h9 => h9) rfl hin rfl (by decide +kernel) rfl rfl (Nat.le_of_ble_eq_true rfl) dX5_init_17 (fun H locs hP hD hS => ?_)
  have hP : va_P D vwCl [(a_this, .inr (5, [.ref q7, .ref q15, .null, .long 0, .long 0, .int 0, .int 0, .int 0])), (q7, .inl (cI, 12, .inl (fun _ => 0))), (q15, .inl (cL, 13, .inr (.inl (fun _ => 0))))] H := hP
  have hD : va_D A [(a_this, .inr (5, [.ref q7, .ref q15, .null, .long 0, .long 0, .int 0, .int 0, .int 0])), (q7, .inl (cI, 12, .inl (fun _ => 0))), (q15, .inl (cL, 13, .inr (.inl (fun _ => 0))))] := hD
  refine lv_aload_n hx hb dX5_init_20 rfl (lv_at hl 0 rfl) ?_
  refine lv_bipush (v := 13) hx hb dX5_init_21 (by decide) ?_
  refine va_newa (atype := .long) (N' := 13) (a0 := (13, .inr (.inl (fun _ => 0)))) hx hb z7 rfl hN.1 hP hD hS hA (fun _ => rfl) (by decide) (by decide) (by decide) (Nat.le_of_ble_eq_true rfl) (Nat.le_of_ble_eq_true rfl) dX5_init_23 (fun q23 cA H hK1 hP hD hS => ?_)
  have eA := arr_cL hK1
  rw [eA] at hP hD
  have hP : va_P D vwCl [(a_this, .inr (5, [.ref q7, .ref q15, .null, .long 0, .long 0, .int 0, .int 0, .int 0])), (q7, .inl (cI, 12, .inl (fun _ => 0))), (q15, .inl (cL, 13, .inr (.inl (fun _ => 0)))), (q23, .inl (cL, 13, .inr (.inl (fun _ => 0))))] H := hP
  have hD : va_D A [(a_this, .inr (5, [.ref q7, .ref q15, .null, .long 0, .long 0, .int 0, .int 0, .int 0])), (q7, .inl (cI, 12, .inl (fun _ => 0))), (q15, .inl (cL, 13, .inr (.inl (fun _ => 0)))), (q23, .inl (cL, 13, .inr (.inl (fun _ => 0))))] := hD
  clear eA hK1
  refine W.widen (k := 3) (n := 38) (Nat.le_of_ble_eq_true rfl) (Nat.le_of_ble_eq_true rfl) ?_
  refine va_putF (D := D) (ci := 5) (v := .ref q23) (ty := .array .long) (C := RX5) (T := TX5) (N := 8) hx hb hts z5 tyX5 tyX5_ok nmX5 hown hN.1 hP hD hS 0 rfl rfl 2 (by decide) z9 (fun _ h9 => h9) rfl hin rfl (by decide +kernel) rfl rfl (Nat.le_of_ble_eq_true rfl) dX5_init_25 (fun H locs hP hD hS => ?_)
  have hP : va_P D vwCl [(a_this, .inr (5, [.ref q7, .ref q15, .ref q23, .long 0, .long 0, .int 0, .int 0, .int 0])), (q7, .inl (cI, 12, .inl (fun _ => 0))), (q15, .inl (cL, 13, .inr (.inl (fun _ => 0)))), (q23, .inl (cL, 13, .inr (.inl (fun _ => 0))))] H := hP
  have hD : va_D A [(a_this, .inr (5, [.ref q7, .ref q15, .ref q23, .long 0, .long 0, .int 0, .int 0, .int 0])), (q7, .inl (cI, 12, .inl (fun _ => 0))), (q15, .inl (cL, 13, .inr (.inl (fun _ => 0)))), (q23, .inl (cL, 13, .inr (.inl (fun _ => 0))))] := hD
  exact rtN (q7, q15, q23) hx hb hr hlk hP hD hS dX5_init_28
abbrev rmX6_init : Room := { frames := 1, cells := 1, slots := 4, locals := 64 }
set_option maxHeartbeats 4000000 in
set_option maxRecDepth 100000 in
theorem cX6_init_ct (l : Launch) (D : va_G) (cI cL cC cZ : ClassId) (a_this : Nat) : CtN l yX6_init wsX6_init rmX6_init D (tyz cI cL cC cZ) [.ref a_this] [(a_this, .inr (6, [.null]))] (fun (u : Nat) => [(a_this, .inr (6, [.ref u])), (u, .inl (cL, 4, .inr (.inl (fun _ => 0))))]) 1 4 := by
  refine CtN.make (cc := cX6_init) (maxL := 1) (by decide) rfl (Nat.le_of_ble_eq_true rfl) ?_
  intro p e s m below meth c A ls C0 hin hN hA hP hD hl
  obtain ⟨hx, hb, hr, hml, hown, hts, hlk⟩ := id C0
  have hown : s.vm.findClass RX6 = some m.cls := hown
  have hS : va_S A s.heap s.heap [] := va_S.rf
  have hl : lv_has ls 1 [(0, .ref a_this)] := hl
  have z1 := hts (.methodLink RX6 3 objectInit) (by decide +kernel)
  have z2 := hts (.instanceMethod objectInit) (by decide +kernel)
  have z3 : (Cond.code objectInit ⟨#[0xb1]⟩ 1 none).before _ s = true := hts _ (List.mem_of_getElem? (i := 3) rfl)
  have z4 := hts (.arrayClass .long) (by decide +kernel)
  have z5 : ∀ w ∈ u_ws RX6 TX6 1, w ∈ wsX6_init := by decide +kernel
  have z6 := hts (.fieldLink RX6 11 "LittleSums$Wide" "words" "[J") (by decide +kernel)
  refine lv_aload_n hx hb dX6_init_0 rfl (lv_at hl 0 rfl) ?_
  refine W.objInit hx hb hown z1 z2 z3 rfl (by rw [hml]; exact hl.1) rfl dX6_init_1 (Nat.le_of_ble_eq_true rfl) (Nat.le_of_ble_eq_true rfl) ?_
  refine W.eq (g2 := F0 m 4 ls []) rfl ?_
  refine lv_aload_n hx hb dX6_init_4 rfl (lv_at hl 0 rfl) ?_
  refine lv_iconst (v := 4) hx hb dX6_init_5 (by decide) ?_
  refine va_newa (atype := .long) (N' := 4) (a0 := (4, .inr (.inl (fun _ => 0)))) hx hb z4 rfl hN.1 hP hD hS hA (fun _ => rfl) (by decide) (by decide) (by decide) (Nat.le_of_ble_eq_true rfl) (Nat.le_of_ble_eq_true rfl) dX6_init_6 (fun q6 cA H hK1 hP hD hS => ?_)
  have eA := arr_cL hK1
  rw [eA] at hP hD
  have hP : va_P D vwCl [(a_this, .inr (6, [.null])), (q6, .inl (cL, 4, .inr (.inl (fun _ => 0))))] H := hP
  have hD : va_D A [(a_this, .inr (6, [.null])), (q6, .inl (cL, 4, .inr (.inl (fun _ => 0))))] := hD
  clear eA hK1
  refine W.widen (k := 1) (n := 4) (Nat.le_of_ble_eq_true rfl) (Nat.le_of_ble_eq_true rfl) ?_
  refine va_putF (D := D) (ci := 6) (v := .ref q6) (ty := .array .long) (C := RX6) (T := TX6) (N := 1) hx hb hts z5 tyX6 tyX6_ok nmX6 hown hN.1 hP hD hS 0 rfl rfl 0 (by decide) z6 (fun _ h9 => h9) rfl hin rfl (by decide +kernel) rfl rfl (Nat.le_of_ble_eq_true rfl) dX6_init_8 (fun H locs hP hD hS => ?_)
  have hP : va_P D vwCl [(a_this, .inr (6, [.ref q6])), (q6, .inl (cL, 4, .inr (.inl (fun _ => 0))))] H := hP
  have hD : va_D A [(a_this, .inr (6, [.ref q6])), (q6, .inl (cL, 4, .inr (.inl (fun _ => 0))))] := hD
  exact rtN q6 hx hb hr hlk hP hD hS dX6_init_11
def nowFirst : Nat → Int32 := (upd (upd (upd (upd (upd (upd (upd (upd (upd (upd (upd (upd (upd (upd (upd (upd (upd (upd (upd (fun _ => 0) 0 1) 1 1) 2 1) 5 1) 41 1) 42 1) 45 1) 46 1) 82 1) 85 1) 88 1) 91 1) 94 1) 123 1) 124 1) 133 1) 134 1) 143 1) 144 1)
abbrev rmX8_init : Room := { frames := 1, cells := 11, slots := 2107, locals := 64 }
set_option maxHeartbeats 8000000 in
set_option maxRecDepth 100000 in
theorem cX8_init_ct (l : Launch) (D : va_G) (cI cL cC cZ : ClassId) (a_this : Nat) : CtN l yX8_init wsX8_init rmX8_init D (tyz cI cL cC cZ) [.ref a_this] [(a_this, .inr (8, [.int 0, .null, .null, .null, .int 0, .null, .int 0, .null, .null, .null, .null, .int 0, .int 0, .null, .null, .int 0, .int 0]))] (fun (u : Nat × Nat × Nat × Nat × Nat × Nat × Nat × Nat × Nat × Nat) => [(a_this, .inr (8, [.int 0, .ref u.1, .ref u.2.1, .ref u.2.2.1, .int 0, .ref u.2.2.2.1, .int 0, .ref u.2.2.2.2.1, .ref u.2.2.2.2.2.1, .ref u.2.2.2.2.2.2.1, .ref u.2.2.2.2.2.2.2.1, .int 0, .int 0, .ref u.2.2.2.2.2.2.2.2.1, .ref u.2.2.2.2.2.2.2.2.2, .int 0, .int 0])), (u.1, .inl (cI, 200, .inl (fun _ => 0))), (u.2.1, .inl (cZ, 164, .inl nowFirst)), (u.2.2.1, .inl (cZ, 984, .inl (fun _ => 0))), (u.2.2.2.1, .inl (cZ, 164, .inl (fun _ => 0))), (u.2.2.2.2.1, .inl (cI, 41, .inl (fun _ => 0))), (u.2.2.2.2.2.1, .inl (cI, 41, .inl (fun _ => 0))), (u.2.2.2.2.2.2.1, .inl (cZ, 241, .inl (fun _ => 0))), (u.2.2.2.2.2.2.2.1, .inl (cZ, 241, .inl (fun _ => 0))), (u.2.2.2.2.2.2.2.2.1, .inl (cI, 5, .inl (fun _ => 0))), (u.2.2.2.2.2.2.2.2.2, .inl (cI, 7, .inl (fun _ => 0)))]) 11 2107 := by
  refine CtN.make (cc := cX8_init) (maxL := 3) (by decide) rfl (Nat.le_of_ble_eq_true rfl) ?_
  intro p e s m below meth c A ls C0 hin hN hA hP hD hl
  obtain ⟨hx, hb, hr, hml, hown, hts, hlk⟩ := id C0
  have hown : s.vm.findClass RX8 = some m.cls := hown
  have hS : va_S A s.heap s.heap [] := va_S.rf
  have hl : lv_has ls 3 [(0, .ref a_this)] := hl
  have z1 := hts (.methodLink RX8 1 objectInit) (by decide +kernel)
  have z2 := hts (.instanceMethod objectInit) (by decide +kernel)
  have z3 : (Cond.code objectInit ⟨#[0xb1]⟩ 1 none).before _ s = true := hts _ (List.mem_of_getElem? (i := 3) rfl)
  have z4 := hts (.arrayClass .int) (by decide +kernel)
  have z5 : ∀ w ∈ u_ws RX8 TX8 17, w ∈ wsX8_init := by decide +kernel
  have z6 := hts (.fieldLink RX8 7 "LittleSumsModel" "text" "[I") (by decide +kernel)
  have z7 := hts (.arrayClass .boolean) (by decide +kernel)
  have z8 := hts (.fieldLink RX8 13 "LittleSumsModel" "now" "[Z") (by decide +kernel)
  have z9 := hts (.fieldLink RX8 17 "LittleSumsModel" "before" "[Z") (by decide +kernel)
  have z10 := hts (.fieldLink RX8 20 "LittleSumsModel" "read" "[Z") (by decide +kernel)
  have z11 := hts (.fieldLink RX8 23 "LittleSumsModel" "first" "[I") (by decide +kernel)
  have z12 := hts (.fieldLink RX8 26 "LittleSumsModel" "second" "[I") (by decide +kernel)
  have z13 := hts (.fieldLink RX8 29 "LittleSumsModel" "sums" "[Z") (by decide +kernel)
  have z14 := hts (.fieldLink RX8 32 "LittleSumsModel" "other" "[Z") (by decide +kernel)
  have z15 := hts (.fieldLink RX8 35 "LittleSumsModel" "grid" "[I") (by decide +kernel)
  have z16 := hts (.fieldLink RX8 38 "LittleSumsModel" "order" "[I") (by decide +kernel)
  refine lv_aload_n hx hb dX8_init_0 rfl (lv_at hl 0 rfl) ?_
  refine W.objInit hx hb hown z1 z2 z3 rfl (by rw [hml]; exact hl.1) rfl dX8_init_1 (Nat.le_of_ble_eq_true rfl) (Nat.le_of_ble_eq_true rfl) ?_
  refine W.eq (g2 := F0 m 4 ls []) rfl ?_
  refine lv_aload_n hx hb dX8_init_4 rfl (lv_at hl 0 rfl) ?_
  refine lv_sipush (v := 200) hx hb dX8_init_5 (by decide) ?_
  refine va_newa (atype := .int) (N' := 200) (a0 := (200, .inl (fun _ => 0))) hx hb z4 rfl hN.1 hP hD hS hA (fun _ => rfl) (by decide) (by decide) (by decide) (Nat.le_of_ble_eq_true rfl) (Nat.le_of_ble_eq_true rfl) dX8_init_8 (fun q8 cA H hK1 hP hD hS => ?_)
  have eA := arr_cI hK1
  rw [eA] at hP hD
  have hP : va_P D vwCl [(a_this, .inr (8, [.int 0, .null, .null, .null, .int 0, .null, .int 0, .null, .null, .null, .null, .int 0, .int 0, .null, .null, .int 0, .int 0])), (q8, .inl (cI, 200, .inl (fun _ => 0)))] H := hP
  have hD : va_D A [(a_this, .inr (8, [.int 0, .null, .null, .null, .int 0, .null, .int 0, .null, .null, .null, .null, .int 0, .int 0, .null, .null, .int 0, .int 0])), (q8, .inl (cI, 200, .inl (fun _ => 0)))] := hD
  clear eA hK1
  refine W.widen (k := 1) (n := 200) (Nat.le_of_ble_eq_true rfl) (Nat.le_of_ble_eq_true rfl) ?_
  refine va_putF (D := D) (ci := 8) (v := .ref q8) (ty := .array .int) (C := RX8) (T := TX8) (N := 17) hx hb hts z5 tyX8 tyX8_ok nmX8 hown hN.1 hP hD hS 0 rfl rfl 1 (by decide) z6 (fun _ h9 => h9) rfl hin rfl (by decide +kernel) rfl rfl (Nat.le_of_ble_eq_true rfl) dX8_init_10 (fun H locs hP hD hS => ?_)
  have hP : va_P D vwCl [(a_this, .inr (8, [.int 0, .ref q8, .null, .null, .int 0, .null, .int 0, .null, .null, .null, .null, .int 0, .int 0, .null, .null, .int 0, .int 0])), (q8, .inl (cI, 200, .inl (fun _ => 0)))] H := hP
  have hD : va_D A [(a_this, .inr (8, [.int 0, .ref q8, .null, .null, .int 0, .null, .int 0, .null, .null, .null, .null, .int 0, .int 0, .null, .null, .int 0, .int 0])), (q8, .inl (cI, 200, .inl (fun _ => 0)))] := hD
  refine lv_aload_n hx hb dX8_init_13 rfl (lv_at hl 0 rfl) ?_
  refine lv_sipush (v := 164) hx hb dX8_init_14 (by decide) ?_
  refine va_newa (atype := .boolean) (N' := 164) (a0 := (164, .inl (fun _ => 0))) hx hb z7 rfl hN.1 hP hD hS hA (fun _ => rfl) (by decide) (by decide) (by decide) (Nat.le_of_ble_eq_true rfl) (Nat.le_of_ble_eq_true rfl) dX8_init_17 (fun q17 cA H hK1 hP hD hS => ?_)
  have eA := arr_cZ hK1
  rw [eA] at hP hD
  have hP : va_P D vwCl [(a_this, .inr (8, [.int 0, .ref q8, .null, .null, .int 0, .null, .int 0, .null, .null, .null, .null, .int 0, .int 0, .null, .null, .int 0, .int 0])), (q8, .inl (cI, 200, .inl (fun _ => 0))), (q17, .inl (cZ, 164, .inl (fun _ => 0)))] H := hP
  have hD : va_D A [(a_this, .inr (8, [.int 0, .ref q8, .null, .null, .int 0, .null, .int 0, .null, .null, .null, .null, .int 0, .int 0, .null, .null, .int 0, .int 0])), (q8, .inl (cI, 200, .inl (fun _ => 0))), (q17, .inl (cZ, 164, .inl (fun _ => 0)))] := hD
  clear eA hK1
  refine W.widen (k := 2) (n := 364) (Nat.le_of_ble_eq_true rfl) (Nat.le_of_ble_eq_true rfl) ?_
  refine va_putF (D := D) (ci := 8) (v := .ref q17) (ty := .array .boolean) (C := RX8) (T := TX8) (N := 17) hx hb hts z5 tyX8 tyX8_ok nmX8 hown hN.1 hP hD hS 0 rfl rfl 2 (by decide) z8 (fun _ h9 => h9) rfl hin rfl (by decide +kernel) rfl rfl (Nat.le_of_ble_eq_true rfl) dX8_init_19 (fun H locs hP hD hS => ?_)
  have hP : va_P D vwCl [(a_this, .inr (8, [.int 0, .ref q8, .ref q17, .null, .int 0, .null, .int 0, .null, .null, .null, .null, .int 0, .int 0, .null, .null, .int 0, .int 0])), (q8, .inl (cI, 200, .inl (fun _ => 0))), (q17, .inl (cZ, 164, .inl (fun _ => 0)))] H := hP
  have hD : va_D A [(a_this, .inr (8, [.int 0, .ref q8, .ref q17, .null, .int 0, .null, .int 0, .null, .null, .null, .null, .int 0, .int 0, .null, .null, .int 0, .int 0])), (q8, .inl (cI, 200, .inl (fun _ => 0))), (q17, .inl (cZ, 164, .inl (fun _ => 0)))] := hD
  refine lv_aload_n hx hb dX8_init_22 rfl (lv_at hl 0 rfl) ?_
  refine lv_sipush (v := 984) hx hb dX8_init_23 (by decide) ?_
  refine va_newa (atype := .boolean) (N' := 984) (a0 := (984, .inl (fun _ => 0))) hx hb z7 rfl hN.1 hP hD hS hA (fun _ => rfl) (by decide) (by decide) (by decide) (Nat.le_of_ble_eq_true rfl) (Nat.le_of_ble_eq_true rfl) dX8_init_26 (fun q26 cA H hK1 hP hD hS => ?_)
  have eA := arr_cZ hK1
  rw [eA] at hP hD
  have hP : va_P D vwCl [(a_this, .inr (8, [.int 0, .ref q8, .ref q17, .null, .int 0, .null, .int 0, .null, .null, .null, .null, .int 0, .int 0, .null, .null, .int 0, .int 0])), (q8, .inl (cI, 200, .inl (fun _ => 0))), (q17, .inl (cZ, 164, .inl (fun _ => 0))), (q26, .inl (cZ, 984, .inl (fun _ => 0)))] H := hP
  have hD : va_D A [(a_this, .inr (8, [.int 0, .ref q8, .ref q17, .null, .int 0, .null, .int 0, .null, .null, .null, .null, .int 0, .int 0, .null, .null, .int 0, .int 0])), (q8, .inl (cI, 200, .inl (fun _ => 0))), (q17, .inl (cZ, 164, .inl (fun _ => 0))), (q26, .inl (cZ, 984, .inl (fun _ => 0)))] := hD
  clear eA hK1
  refine W.widen (k := 3) (n := 1348) (Nat.le_of_ble_eq_true rfl) (Nat.le_of_ble_eq_true rfl) ?_
  refine va_putF (D := D) (ci := 8) (v := .ref q26) (ty := .array .boolean) (C := RX8) (T := TX8) (N := 17) hx hb hts z5 tyX8 tyX8_ok nmX8 hown hN.1 hP hD hS 0 rfl rfl 3 (by decide) z9 (fun _ h9 => h9) rfl hin rfl (by decide +kernel) rfl rfl (Nat.le_of_ble_eq_true rfl) dX8_init_28 (fun H locs hP hD hS => ?_)
  have hP : va_P D vwCl [(a_this, .inr (8, [.int 0, .ref q8, .ref q17, .ref q26, .int 0, .null, .int 0, .null, .null, .null, .null, .int 0, .int 0, .null, .null, .int 0, .int 0])), (q8, .inl (cI, 200, .inl (fun _ => 0))), (q17, .inl (cZ, 164, .inl (fun _ => 0))), (q26, .inl (cZ, 984, .inl (fun _ => 0)))] H := hP
  have hD : va_D A [(a_this, .inr (8, [.int 0, .ref q8, .ref q17, .ref q26, .int 0, .null, .int 0, .null, .null, .null, .null, .int 0, .int 0, .null, .null, .int 0, .int 0])), (q8, .inl (cI, 200, .inl (fun _ => 0))), (q17, .inl (cZ, 164, .inl (fun _ => 0))), (q26, .inl (cZ, 984, .inl (fun _ => 0)))] := hD
  refine lv_aload_n hx hb dX8_init_31 rfl (lv_at hl 0 rfl) ?_
  refine lv_sipush (v := 164) hx hb dX8_init_32 (by decide) ?_
  refine va_newa (atype := .boolean) (N' := 164) (a0 := (164, .inl (fun _ => 0))) hx hb z7 rfl hN.1 hP hD hS hA (fun _ => rfl) (by decide) (by decide) (by decide) (Nat.le_of_ble_eq_true rfl) (Nat.le_of_ble_eq_true rfl) dX8_init_35 (fun q35 cA H hK1 hP hD hS => ?_)
  have eA := arr_cZ hK1
  rw [eA] at hP hD
  have hP : va_P D vwCl [(a_this, .inr (8, [.int 0, .ref q8, .ref q17, .ref q26, .int 0, .null, .int 0, .null, .null, .null, .null, .int 0, .int 0, .null, .null, .int 0, .int 0])), (q8, .inl (cI, 200, .inl (fun _ => 0))), (q17, .inl (cZ, 164, .inl (fun _ => 0))), (q26, .inl (cZ, 984, .inl (fun _ => 0))), (q35, .inl (cZ, 164, .inl (fun _ => 0)))] H := hP
  have hD : va_D A [(a_this, .inr (8, [.int 0, .ref q8, .ref q17, .ref q26, .int 0, .null, .int 0, .null, .null, .null, .null, .int 0, .int 0, .null, .null, .int 0, .int 0])), (q8, .inl (cI, 200, .inl (fun _ => 0))), (q17, .inl (cZ, 164, .inl (fun _ => 0))), (q26, .inl (cZ, 984, .inl (fun _ => 0))), (q35, .inl (cZ, 164, .inl (fun _ => 0)))] := hD
  clear eA hK1
  refine W.widen (k := 4) (n := 1512) (Nat.le_of_ble_eq_true rfl) (Nat.le_of_ble_eq_true rfl) ?_
  refine va_putF (D := D) (ci := 8) (v := .ref q35) (ty := .array .boolean) (C := RX8) (T := TX8) (N := 17) hx hb hts z5 tyX8 tyX8_ok nmX8 hown hN.1 hP hD hS 0 rfl rfl 5 (by decide) z10 (fun _ h9 => h9) rfl hin rfl (by decide +kernel) rfl rfl (Nat.le_of_ble_eq_true rfl) dX8_init_37 (fun H locs hP hD hS => ?_)
  have hP : va_P D vwCl [(a_this, .inr (8, [.int 0, .ref q8, .ref q17, .ref q26, .int 0, .ref q35, .int 0, .null, .null, .null, .null, .int 0, .int 0, .null, .null, .int 0, .int 0])), (q8, .inl (cI, 200, .inl (fun _ => 0))), (q17, .inl (cZ, 164, .inl (fun _ => 0))), (q26, .inl (cZ, 984, .inl (fun _ => 0))), (q35, .inl (cZ, 164, .inl (fun _ => 0)))] H := hP
  have hD : va_D A [(a_this, .inr (8, [.int 0, .ref q8, .ref q17, .ref q26, .int 0, .ref q35, .int 0, .null, .null, .null, .null, .int 0, .int 0, .null, .null, .int 0, .int 0])), (q8, .inl (cI, 200, .inl (fun _ => 0))), (q17, .inl (cZ, 164, .inl (fun _ => 0))), (q26, .inl (cZ, 984, .inl (fun _ => 0))), (q35, .inl (cZ, 164, .inl (fun _ => 0)))] := hD
  refine lv_aload_n hx hb dX8_init_40 rfl (lv_at hl 0 rfl) ?_
  refine lv_bipush (v := 41) hx hb dX8_init_41 (by decide) ?_
  refine va_newa (atype := .int) (N' := 41) (a0 := (41, .inl (fun _ => 0))) hx hb z4 rfl hN.1 hP hD hS hA (fun _ => rfl) (by decide) (by decide) (by decide) (Nat.le_of_ble_eq_true rfl) (Nat.le_of_ble_eq_true rfl) dX8_init_43 (fun q43 cA H hK1 hP hD hS => ?_)
  have eA := arr_cI hK1
  rw [eA] at hP hD
  have hP : va_P D vwCl [(a_this, .inr (8, [.int 0, .ref q8, .ref q17, .ref q26, .int 0, .ref q35, .int 0, .null, .null, .null, .null, .int 0, .int 0, .null, .null, .int 0, .int 0])), (q8, .inl (cI, 200, .inl (fun _ => 0))), (q17, .inl (cZ, 164, .inl (fun _ => 0))), (q26, .inl (cZ, 984, .inl (fun _ => 0))), (q35, .inl (cZ, 164, .inl (fun _ => 0))), (q43, .inl (cI, 41, .inl (fun _ => 0)))] H := hP
  have hD : va_D A [(a_this, .inr (8, [.int 0, .ref q8, .ref q17, .ref q26, .int 0, .ref q35, .int 0, .null, .null, .null, .null, .int 0, .int 0, .null, .null, .int 0, .int 0])), (q8, .inl (cI, 200, .inl (fun _ => 0))), (q17, .inl (cZ, 164, .inl (fun _ => 0))), (q26, .inl (cZ, 984, .inl (fun _ => 0))), (q35, .inl (cZ, 164, .inl (fun _ => 0))), (q43, .inl (cI, 41, .inl (fun _ => 0)))] := hD
  clear eA hK1
  refine W.widen (k := 5) (n := 1553) (Nat.le_of_ble_eq_true rfl) (Nat.le_of_ble_eq_true rfl) ?_
  refine va_putF (D := D) (ci := 8) (v := .ref q43) (ty := .array .int) (C := RX8) (T := TX8) (N := 17) hx hb hts z5 tyX8 tyX8_ok nmX8 hown hN.1 hP hD hS 0 rfl rfl 7 (by decide) z11 (fun _ h9 => h9) rfl hin rfl (by decide +kernel) rfl rfl (Nat.le_of_ble_eq_true rfl) dX8_init_45 (fun H locs hP hD hS => ?_)
  have hP : va_P D vwCl [(a_this, .inr (8, [.int 0, .ref q8, .ref q17, .ref q26, .int 0, .ref q35, .int 0, .ref q43, .null, .null, .null, .int 0, .int 0, .null, .null, .int 0, .int 0])), (q8, .inl (cI, 200, .inl (fun _ => 0))), (q17, .inl (cZ, 164, .inl (fun _ => 0))), (q26, .inl (cZ, 984, .inl (fun _ => 0))), (q35, .inl (cZ, 164, .inl (fun _ => 0))), (q43, .inl (cI, 41, .inl (fun _ => 0)))] H := hP
  have hD : va_D A [(a_this, .inr (8, [.int 0, .ref q8, .ref q17, .ref q26, .int 0, .ref q35, .int 0, .ref q43, .null, .null, .null, .int 0, .int 0, .null, .null, .int 0, .int 0])), (q8, .inl (cI, 200, .inl (fun _ => 0))), (q17, .inl (cZ, 164, .inl (fun _ => 0))), (q26, .inl (cZ, 984, .inl (fun _ => 0))), (q35, .inl (cZ, 164, .inl (fun _ => 0))), (q43, .inl (cI, 41, .inl (fun _ => 0)))] := hD
  refine lv_aload_n hx hb dX8_init_48 rfl (lv_at hl 0 rfl) ?_
  refine lv_bipush (v := 41) hx hb dX8_init_49 (by decide) ?_
  refine va_newa (atype := .int) (N' := 41) (a0 := (41, .inl (fun _ => 0))) hx hb z4 rfl hN.1 hP hD hS hA (fun _ => rfl) (by decide) (by decide) (by decide) (Nat.le_of_ble_eq_true rfl) (Nat.le_of_ble_eq_true rfl) dX8_init_51 (fun q51 cA H hK1 hP hD hS => ?_)
  have eA := arr_cI hK1
  rw [eA] at hP hD
  have hP : va_P D vwCl [(a_this, .inr (8, [.int 0, .ref q8, .ref q17, .ref q26, .int 0, .ref q35, .int 0, .ref q43, .null, .null, .null, .int 0, .int 0, .null, .null, .int 0, .int 0])), (q8, .inl (cI, 200, .inl (fun _ => 0))), (q17, .inl (cZ, 164, .inl (fun _ => 0))), (q26, .inl (cZ, 984, .inl (fun _ => 0))), (q35, .inl (cZ, 164, .inl (fun _ => 0))), (q43, .inl (cI, 41, .inl (fun _ => 0))), (q51, .inl (cI, 41, .inl (fun _ => 0)))] H := hP
  have hD : va_D A [(a_this, .inr (8, [.int 0, .ref q8, .ref q17, .ref q26, .int 0, .ref q35, .int 0, .ref q43, .null, .null, .null, .int 0, .int 0, .null, .null, .int 0, .int 0])), (q8, .inl (cI, 200, .inl (fun _ => 0))), (q17, .inl (cZ, 164, .inl (fun _ => 0))), (q26, .inl (cZ, 984, .inl (fun _ => 0))), (q35, .inl (cZ, 164, .inl (fun _ => 0))), (q43, .inl (cI, 41, .inl (fun _ => 0))), (q51, .inl (cI, 41, .inl (fun _ => 0)))] := hD
  clear eA hK1
  refine W.widen (k := 6) (n := 1594) (Nat.le_of_ble_eq_true rfl) (Nat.le_of_ble_eq_true rfl) ?_
  refine va_putF (D := D) (ci := 8) (v := .ref q51) (ty := .array .int) (C := RX8) (T := TX8) (N := 17) hx hb hts z5 tyX8 tyX8_ok nmX8 hown hN.1 hP hD hS 0 rfl rfl 8 (by decide) z12 (fun _ h9 => h9) rfl hin rfl (by decide +kernel) rfl rfl (Nat.le_of_ble_eq_true rfl) dX8_init_53 (fun H locs hP hD hS => ?_)
  have hP : va_P D vwCl [(a_this, .inr (8, [.int 0, .ref q8, .ref q17, .ref q26, .int 0, .ref q35, .int 0, .ref q43, .ref q51, .null, .null, .int 0, .int 0, .null, .null, .int 0, .int 0])), (q8, .inl (cI, 200, .inl (fun _ => 0))), (q17, .inl (cZ, 164, .inl (fun _ => 0))), (q26, .inl (cZ, 984, .inl (fun _ => 0))), (q35, .inl (cZ, 164, .inl (fun _ => 0))), (q43, .inl (cI, 41, .inl (fun _ => 0))), (q51, .inl (cI, 41, .inl (fun _ => 0)))] H := hP
  have hD : va_D A [(a_this, .inr (8, [.int 0, .ref q8, .ref q17, .ref q26, .int 0, .ref q35, .int 0, .ref q43, .ref q51, .null, .null, .int 0, .int 0, .null, .null, .int 0, .int 0])), (q8, .inl (cI, 200, .inl (fun _ => 0))), (q17, .inl (cZ, 164, .inl (fun _ => 0))), (q26, .inl (cZ, 984, .inl (fun _ => 0))), (q35, .inl (cZ, 164, .inl (fun _ => 0))), (q43, .inl (cI, 41, .inl (fun _ => 0))), (q51, .inl (cI, 41, .inl (fun _ => 0)))] := hD
  refine lv_aload_n hx hb dX8_init_56 rfl (lv_at hl 0 rfl) ?_
  refine lv_sipush (v := 241) hx hb dX8_init_57 (by decide) ?_
  refine va_newa (atype := .boolean) (N' := 241) (a0 := (241, .inl (fun _ => 0))) hx hb z7 rfl hN.1 hP hD hS hA (fun _ => rfl) (by decide) (by decide) (by decide) (Nat.le_of_ble_eq_true rfl) (Nat.le_of_ble_eq_true rfl) dX8_init_60 (fun q60 cA H hK1 hP hD hS => ?_)
  have eA := arr_cZ hK1
  rw [eA] at hP hD
  have hP : va_P D vwCl [(a_this, .inr (8, [.int 0, .ref q8, .ref q17, .ref q26, .int 0, .ref q35, .int 0, .ref q43, .ref q51, .null, .null, .int 0, .int 0, .null, .null, .int 0, .int 0])), (q8, .inl (cI, 200, .inl (fun _ => 0))), (q17, .inl (cZ, 164, .inl (fun _ => 0))), (q26, .inl (cZ, 984, .inl (fun _ => 0))), (q35, .inl (cZ, 164, .inl (fun _ => 0))), (q43, .inl (cI, 41, .inl (fun _ => 0))), (q51, .inl (cI, 41, .inl (fun _ => 0))), (q60, .inl (cZ, 241, .inl (fun _ => 0)))] H := hP
  have hD : va_D A [(a_this, .inr (8, [.int 0, .ref q8, .ref q17, .ref q26, .int 0, .ref q35, .int 0, .ref q43, .ref q51, .null, .null, .int 0, .int 0, .null, .null, .int 0, .int 0])), (q8, .inl (cI, 200, .inl (fun _ => 0))), (q17, .inl (cZ, 164, .inl (fun _ => 0))), (q26, .inl (cZ, 984, .inl (fun _ => 0))), (q35, .inl (cZ, 164, .inl (fun _ => 0))), (q43, .inl (cI, 41, .inl (fun _ => 0))), (q51, .inl (cI, 41, .inl (fun _ => 0))), (q60, .inl (cZ, 241, .inl (fun _ => 0)))] := hD
  clear eA hK1
  refine W.widen (k := 7) (n := 1835) (Nat.le_of_ble_eq_true rfl) (Nat.le_of_ble_eq_true rfl) ?_
  refine va_putF (D := D) (ci := 8) (v := .ref q60) (ty := .array .boolean) (C := RX8) (T := TX8) (N := 17) hx hb hts z5 tyX8 tyX8_ok nmX8 hown hN.1 hP hD hS 0 rfl rfl 9 (by decide) z13 (fun _ h9 => h9) rfl hin rfl (by decide +kernel) rfl rfl (Nat.le_of_ble_eq_true rfl) dX8_init_62 (fun H locs hP hD hS => ?_)
  have hP : va_P D vwCl [(a_this, .inr (8, [.int 0, .ref q8, .ref q17, .ref q26, .int 0, .ref q35, .int 0, .ref q43, .ref q51, .ref q60, .null, .int 0, .int 0, .null, .null, .int 0, .int 0])), (q8, .inl (cI, 200, .inl (fun _ => 0))), (q17, .inl (cZ, 164, .inl (fun _ => 0))), (q26, .inl (cZ, 984, .inl (fun _ => 0))), (q35, .inl (cZ, 164, .inl (fun _ => 0))), (q43, .inl (cI, 41, .inl (fun _ => 0))), (q51, .inl (cI, 41, .inl (fun _ => 0))), (q60, .inl (cZ, 241, .inl (fun _ => 0)))] H := hP
  have hD : va_D A [(a_this, .inr (8, [.int 0, .ref q8, .ref q17, .ref q26, .int 0, .ref q35, .int 0, .ref q43, .ref q51, .ref q60, .null, .int 0, .int 0, .null, .null, .int 0, .int 0])), (q8, .inl (cI, 200, .inl (fun _ => 0))), (q17, .inl (cZ, 164, .inl (fun _ => 0))), (q26, .inl (cZ, 984, .inl (fun _ => 0))), (q35, .inl (cZ, 164, .inl (fun _ => 0))), (q43, .inl (cI, 41, .inl (fun _ => 0))), (q51, .inl (cI, 41, .inl (fun _ => 0))), (q60, .inl (cZ, 241, .inl (fun _ => 0)))] := hD
  refine lv_aload_n hx hb dX8_init_65 rfl (lv_at hl 0 rfl) ?_
  refine lv_sipush (v := 241) hx hb dX8_init_66 (by decide) ?_
  refine va_newa (atype := .boolean) (N' := 241) (a0 := (241, .inl (fun _ => 0))) hx hb z7 rfl hN.1 hP hD hS hA (fun _ => rfl) (by decide) (by decide) (by decide) (Nat.le_of_ble_eq_true rfl) (Nat.le_of_ble_eq_true rfl) dX8_init_69 (fun q69 cA H hK1 hP hD hS => ?_)
  have eA := arr_cZ hK1
  rw [eA] at hP hD
  have hP : va_P D vwCl [(a_this, .inr (8, [.int 0, .ref q8, .ref q17, .ref q26, .int 0, .ref q35, .int 0, .ref q43, .ref q51, .ref q60, .null, .int 0, .int 0, .null, .null, .int 0, .int 0])), (q8, .inl (cI, 200, .inl (fun _ => 0))), (q17, .inl (cZ, 164, .inl (fun _ => 0))), (q26, .inl (cZ, 984, .inl (fun _ => 0))), (q35, .inl (cZ, 164, .inl (fun _ => 0))), (q43, .inl (cI, 41, .inl (fun _ => 0))), (q51, .inl (cI, 41, .inl (fun _ => 0))), (q60, .inl (cZ, 241, .inl (fun _ => 0))), (q69, .inl (cZ, 241, .inl (fun _ => 0)))] H := hP
  have hD : va_D A [(a_this, .inr (8, [.int 0, .ref q8, .ref q17, .ref q26, .int 0, .ref q35, .int 0, .ref q43, .ref q51, .ref q60, .null, .int 0, .int 0, .null, .null, .int 0, .int 0])), (q8, .inl (cI, 200, .inl (fun _ => 0))), (q17, .inl (cZ, 164, .inl (fun _ => 0))), (q26, .inl (cZ, 984, .inl (fun _ => 0))), (q35, .inl (cZ, 164, .inl (fun _ => 0))), (q43, .inl (cI, 41, .inl (fun _ => 0))), (q51, .inl (cI, 41, .inl (fun _ => 0))), (q60, .inl (cZ, 241, .inl (fun _ => 0))), (q69, .inl (cZ, 241, .inl (fun _ => 0)))] := hD
  clear eA hK1
  refine W.widen (k := 8) (n := 2076) (Nat.le_of_ble_eq_true rfl) (Nat.le_of_ble_eq_true rfl) ?_
  refine va_putF (D := D) (ci := 8) (v := .ref q69) (ty := .array .boolean) (C := RX8) (T := TX8) (N := 17) hx hb hts z5 tyX8 tyX8_ok nmX8 hown hN.1 hP hD hS 0 rfl rfl 10 (by decide) z14 (fun _ h9 => h9) rfl hin rfl (by decide +kernel) rfl rfl (Nat.le_of_ble_eq_true rfl) dX8_init_71 (fun H locs hP hD hS => ?_)
  have hP : va_P D vwCl [(a_this, .inr (8, [.int 0, .ref q8, .ref q17, .ref q26, .int 0, .ref q35, .int 0, .ref q43, .ref q51, .ref q60, .ref q69, .int 0, .int 0, .null, .null, .int 0, .int 0])), (q8, .inl (cI, 200, .inl (fun _ => 0))), (q17, .inl (cZ, 164, .inl (fun _ => 0))), (q26, .inl (cZ, 984, .inl (fun _ => 0))), (q35, .inl (cZ, 164, .inl (fun _ => 0))), (q43, .inl (cI, 41, .inl (fun _ => 0))), (q51, .inl (cI, 41, .inl (fun _ => 0))), (q60, .inl (cZ, 241, .inl (fun _ => 0))), (q69, .inl (cZ, 241, .inl (fun _ => 0)))] H := hP
  have hD : va_D A [(a_this, .inr (8, [.int 0, .ref q8, .ref q17, .ref q26, .int 0, .ref q35, .int 0, .ref q43, .ref q51, .ref q60, .ref q69, .int 0, .int 0, .null, .null, .int 0, .int 0])), (q8, .inl (cI, 200, .inl (fun _ => 0))), (q17, .inl (cZ, 164, .inl (fun _ => 0))), (q26, .inl (cZ, 984, .inl (fun _ => 0))), (q35, .inl (cZ, 164, .inl (fun _ => 0))), (q43, .inl (cI, 41, .inl (fun _ => 0))), (q51, .inl (cI, 41, .inl (fun _ => 0))), (q60, .inl (cZ, 241, .inl (fun _ => 0))), (q69, .inl (cZ, 241, .inl (fun _ => 0)))] := hD
  refine lv_aload_n hx hb dX8_init_74 rfl (lv_at hl 0 rfl) ?_
  refine lv_iconst (v := 5) hx hb dX8_init_75 (by decide) ?_
  refine va_newa (atype := .int) (N' := 5) (a0 := (5, .inl (fun _ => 0))) hx hb z4 rfl hN.1 hP hD hS hA (fun _ => rfl) (by decide) (by decide) (by decide) (Nat.le_of_ble_eq_true rfl) (Nat.le_of_ble_eq_true rfl) dX8_init_76 (fun q76 cA H hK1 hP hD hS => ?_)
  have eA := arr_cI hK1
  rw [eA] at hP hD
  have hP : va_P D vwCl [(a_this, .inr (8, [.int 0, .ref q8, .ref q17, .ref q26, .int 0, .ref q35, .int 0, .ref q43, .ref q51, .ref q60, .ref q69, .int 0, .int 0, .null, .null, .int 0, .int 0])), (q8, .inl (cI, 200, .inl (fun _ => 0))), (q17, .inl (cZ, 164, .inl (fun _ => 0))), (q26, .inl (cZ, 984, .inl (fun _ => 0))), (q35, .inl (cZ, 164, .inl (fun _ => 0))), (q43, .inl (cI, 41, .inl (fun _ => 0))), (q51, .inl (cI, 41, .inl (fun _ => 0))), (q60, .inl (cZ, 241, .inl (fun _ => 0))), (q69, .inl (cZ, 241, .inl (fun _ => 0))), (q76, .inl (cI, 5, .inl (fun _ => 0)))] H := hP
  have hD : va_D A [(a_this, .inr (8, [.int 0, .ref q8, .ref q17, .ref q26, .int 0, .ref q35, .int 0, .ref q43, .ref q51, .ref q60, .ref q69, .int 0, .int 0, .null, .null, .int 0, .int 0])), (q8, .inl (cI, 200, .inl (fun _ => 0))), (q17, .inl (cZ, 164, .inl (fun _ => 0))), (q26, .inl (cZ, 984, .inl (fun _ => 0))), (q35, .inl (cZ, 164, .inl (fun _ => 0))), (q43, .inl (cI, 41, .inl (fun _ => 0))), (q51, .inl (cI, 41, .inl (fun _ => 0))), (q60, .inl (cZ, 241, .inl (fun _ => 0))), (q69, .inl (cZ, 241, .inl (fun _ => 0))), (q76, .inl (cI, 5, .inl (fun _ => 0)))] := hD
  clear eA hK1
  refine W.widen (k := 9) (n := 2081) (Nat.le_of_ble_eq_true rfl) (Nat.le_of_ble_eq_true rfl) ?_
  refine va_putF (D := D) (ci := 8) (v := .ref q76) (ty := .array .int) (C := RX8) (T := TX8) (N := 17) hx hb hts z5 tyX8 tyX8_ok nmX8 hown hN.1 hP hD hS 0 rfl rfl 13 (by decide) z15 (fun _ h9 => h9) rfl hin rfl (by decide +kernel) rfl rfl (Nat.le_of_ble_eq_true rfl) dX8_init_78 (fun H locs hP hD hS => ?_)
  have hP : va_P D vwCl [(a_this, .inr (8, [.int 0, .ref q8, .ref q17, .ref q26, .int 0, .ref q35, .int 0, .ref q43, .ref q51, .ref q60, .ref q69, .int 0, .int 0, .ref q76, .null, .int 0, .int 0])), (q8, .inl (cI, 200, .inl (fun _ => 0))), (q17, .inl (cZ, 164, .inl (fun _ => 0))), (q26, .inl (cZ, 984, .inl (fun _ => 0))), (q35, .inl (cZ, 164, .inl (fun _ => 0))), (q43, .inl (cI, 41, .inl (fun _ => 0))), (q51, .inl (cI, 41, .inl (fun _ => 0))), (q60, .inl (cZ, 241, .inl (fun _ => 0))), (q69, .inl (cZ, 241, .inl (fun _ => 0))), (q76, .inl (cI, 5, .inl (fun _ => 0)))] H := hP
  have hD : va_D A [(a_this, .inr (8, [.int 0, .ref q8, .ref q17, .ref q26, .int 0, .ref q35, .int 0, .ref q43, .ref q51, .ref q60, .ref q69, .int 0, .int 0, .ref q76, .null, .int 0, .int 0])), (q8, .inl (cI, 200, .inl (fun _ => 0))), (q17, .inl (cZ, 164, .inl (fun _ => 0))), (q26, .inl (cZ, 984, .inl (fun _ => 0))), (q35, .inl (cZ, 164, .inl (fun _ => 0))), (q43, .inl (cI, 41, .inl (fun _ => 0))), (q51, .inl (cI, 41, .inl (fun _ => 0))), (q60, .inl (cZ, 241, .inl (fun _ => 0))), (q69, .inl (cZ, 241, .inl (fun _ => 0))), (q76, .inl (cI, 5, .inl (fun _ => 0)))] := hD
  refine lv_aload_n hx hb dX8_init_81 rfl (lv_at hl 0 rfl) ?_
  refine lv_bipush (v := 7) hx hb dX8_init_82 (by decide) ?_
  refine va_newa (atype := .int) (N' := 7) (a0 := (7, .inl (fun _ => 0))) hx hb z4 rfl hN.1 hP hD hS hA (fun _ => rfl) (by decide) (by decide) (by decide) (Nat.le_of_ble_eq_true rfl) (Nat.le_of_ble_eq_true rfl) dX8_init_84 (fun q84 cA H hK1 hP hD hS => ?_)
  have eA := arr_cI hK1
  rw [eA] at hP hD
  have hP : va_P D vwCl [(a_this, .inr (8, [.int 0, .ref q8, .ref q17, .ref q26, .int 0, .ref q35, .int 0, .ref q43, .ref q51, .ref q60, .ref q69, .int 0, .int 0, .ref q76, .null, .int 0, .int 0])), (q8, .inl (cI, 200, .inl (fun _ => 0))), (q17, .inl (cZ, 164, .inl (fun _ => 0))), (q26, .inl (cZ, 984, .inl (fun _ => 0))), (q35, .inl (cZ, 164, .inl (fun _ => 0))), (q43, .inl (cI, 41, .inl (fun _ => 0))), (q51, .inl (cI, 41, .inl (fun _ => 0))), (q60, .inl (cZ, 241, .inl (fun _ => 0))), (q69, .inl (cZ, 241, .inl (fun _ => 0))), (q76, .inl (cI, 5, .inl (fun _ => 0))), (q84, .inl (cI, 7, .inl (fun _ => 0)))] H := hP
  have hD : va_D A [(a_this, .inr (8, [.int 0, .ref q8, .ref q17, .ref q26, .int 0, .ref q35, .int 0, .ref q43, .ref q51, .ref q60, .ref q69, .int 0, .int 0, .ref q76, .null, .int 0, .int 0])), (q8, .inl (cI, 200, .inl (fun _ => 0))), (q17, .inl (cZ, 164, .inl (fun _ => 0))), (q26, .inl (cZ, 984, .inl (fun _ => 0))), (q35, .inl (cZ, 164, .inl (fun _ => 0))), (q43, .inl (cI, 41, .inl (fun _ => 0))), (q51, .inl (cI, 41, .inl (fun _ => 0))), (q60, .inl (cZ, 241, .inl (fun _ => 0))), (q69, .inl (cZ, 241, .inl (fun _ => 0))), (q76, .inl (cI, 5, .inl (fun _ => 0))), (q84, .inl (cI, 7, .inl (fun _ => 0)))] := hD
  clear eA hK1
  refine W.widen (k := 10) (n := 2088) (Nat.le_of_ble_eq_true rfl) (Nat.le_of_ble_eq_true rfl) ?_
  refine va_putF (D := D) (ci := 8) (v := .ref q84) (ty := .array .int) (C := RX8) (T := TX8) (N := 17) hx hb hts z5 tyX8 tyX8_ok nmX8 hown hN.1 hP hD hS 0 rfl rfl 14 (by decide) z16 (fun _ h9 => h9) rfl hin rfl (by decide +kernel) rfl rfl (Nat.le_of_ble_eq_true rfl) dX8_init_86 (fun H locs hP hD hS => ?_)
  have hP : va_P D vwCl [(a_this, .inr (8, [.int 0, .ref q8, .ref q17, .ref q26, .int 0, .ref q35, .int 0, .ref q43, .ref q51, .ref q60, .ref q69, .int 0, .int 0, .ref q76, .ref q84, .int 0, .int 0])), (q8, .inl (cI, 200, .inl (fun _ => 0))), (q17, .inl (cZ, 164, .inl (fun _ => 0))), (q26, .inl (cZ, 984, .inl (fun _ => 0))), (q35, .inl (cZ, 164, .inl (fun _ => 0))), (q43, .inl (cI, 41, .inl (fun _ => 0))), (q51, .inl (cI, 41, .inl (fun _ => 0))), (q60, .inl (cZ, 241, .inl (fun _ => 0))), (q69, .inl (cZ, 241, .inl (fun _ => 0))), (q76, .inl (cI, 5, .inl (fun _ => 0))), (q84, .inl (cI, 7, .inl (fun _ => 0)))] H := hP
  have hD : va_D A [(a_this, .inr (8, [.int 0, .ref q8, .ref q17, .ref q26, .int 0, .ref q35, .int 0, .ref q43, .ref q51, .ref q60, .ref q69, .int 0, .int 0, .ref q76, .ref q84, .int 0, .int 0])), (q8, .inl (cI, 200, .inl (fun _ => 0))), (q17, .inl (cZ, 164, .inl (fun _ => 0))), (q26, .inl (cZ, 984, .inl (fun _ => 0))), (q35, .inl (cZ, 164, .inl (fun _ => 0))), (q43, .inl (cI, 41, .inl (fun _ => 0))), (q51, .inl (cI, 41, .inl (fun _ => 0))), (q60, .inl (cZ, 241, .inl (fun _ => 0))), (q69, .inl (cZ, 241, .inl (fun _ => 0))), (q76, .inl (cI, 5, .inl (fun _ => 0))), (q84, .inl (cI, 7, .inl (fun _ => 0)))] := hD
  refine lv_bipush (v := 19) hx hb dX8_init_89 (by decide) ?_
  refine va_newa (atype := .int) (N' := 19) (a0 := (19, .inl (fun _ => 0))) hx hb z4 rfl hN.1 hP hD hS hA (fun _ => rfl) (by decide) (by decide) (by decide) (Nat.le_of_ble_eq_true rfl) (Nat.le_of_ble_eq_true rfl) dX8_init_91 (fun q91 cA H hK1 hP hD hS => ?_)
  have eA := arr_cI hK1
  rw [eA] at hP hD
  have hP : va_P D vwCl [(a_this, .inr (8, [.int 0, .ref q8, .ref q17, .ref q26, .int 0, .ref q35, .int 0, .ref q43, .ref q51, .ref q60, .ref q69, .int 0, .int 0, .ref q76, .ref q84, .int 0, .int 0])), (q8, .inl (cI, 200, .inl (fun _ => 0))), (q17, .inl (cZ, 164, .inl (fun _ => 0))), (q26, .inl (cZ, 984, .inl (fun _ => 0))), (q35, .inl (cZ, 164, .inl (fun _ => 0))), (q43, .inl (cI, 41, .inl (fun _ => 0))), (q51, .inl (cI, 41, .inl (fun _ => 0))), (q60, .inl (cZ, 241, .inl (fun _ => 0))), (q69, .inl (cZ, 241, .inl (fun _ => 0))), (q76, .inl (cI, 5, .inl (fun _ => 0))), (q84, .inl (cI, 7, .inl (fun _ => 0))), (q91, .inl (cI, 19, .inl (fun _ => 0)))] H := hP
  have hD : va_D A [(a_this, .inr (8, [.int 0, .ref q8, .ref q17, .ref q26, .int 0, .ref q35, .int 0, .ref q43, .ref q51, .ref q60, .ref q69, .int 0, .int 0, .ref q76, .ref q84, .int 0, .int 0])), (q8, .inl (cI, 200, .inl (fun _ => 0))), (q17, .inl (cZ, 164, .inl (fun _ => 0))), (q26, .inl (cZ, 984, .inl (fun _ => 0))), (q35, .inl (cZ, 164, .inl (fun _ => 0))), (q43, .inl (cI, 41, .inl (fun _ => 0))), (q51, .inl (cI, 41, .inl (fun _ => 0))), (q60, .inl (cZ, 241, .inl (fun _ => 0))), (q69, .inl (cZ, 241, .inl (fun _ => 0))), (q76, .inl (cI, 5, .inl (fun _ => 0))), (q84, .inl (cI, 7, .inl (fun _ => 0))), (q91, .inl (cI, 19, .inl (fun _ => 0)))] := hD
  clear eA hK1
  refine W.widen (k := 11) (n := 2107) (Nat.le_of_ble_eq_true rfl) (Nat.le_of_ble_eq_true rfl) ?_
  refine lv_dup hx hb dX8_init_93 rfl ?_
  refine lv_iconst (v := 0) hx hb dX8_init_94 (by decide) ?_
  refine lv_iconst (v := 0) hx hb dX8_init_95 (by decide) ?_
  refine va_iast hx hb hN.1 hP hD hS 11 0 rfl rfl (ix_in (by decide)) dX8_init_96 (fun H locs hP hD hS => ?_)
  obtain ⟨w1, ew1⟩ : ∃ z : Nat → Int32, z = (upd (fun _ => 0) 0 0) := ⟨_, rfl⟩
  have hP : va_P D vwCl [(a_this, .inr (8, [.int 0, .ref q8, .ref q17, .ref q26, .int 0, .ref q35, .int 0, .ref q43, .ref q51, .ref q60, .ref q69, .int 0, .int 0, .ref q76, .ref q84, .int 0, .int 0])), (q8, .inl (cI, 200, .inl (fun _ => 0))), (q17, .inl (cZ, 164, .inl (fun _ => 0))), (q26, .inl (cZ, 984, .inl (fun _ => 0))), (q35, .inl (cZ, 164, .inl (fun _ => 0))), (q43, .inl (cI, 41, .inl (fun _ => 0))), (q51, .inl (cI, 41, .inl (fun _ => 0))), (q60, .inl (cZ, 241, .inl (fun _ => 0))), (q69, .inl (cZ, 241, .inl (fun _ => 0))), (q76, .inl (cI, 5, .inl (fun _ => 0))), (q84, .inl (cI, 7, .inl (fun _ => 0))), (q91, .inl (cI, 19, .inl w1))] H := by rw [ew1]; exact hP
  have hD : va_D A [(a_this, .inr (8, [.int 0, .ref q8, .ref q17, .ref q26, .int 0, .ref q35, .int 0, .ref q43, .ref q51, .ref q60, .ref q69, .int 0, .int 0, .ref q76, .ref q84, .int 0, .int 0])), (q8, .inl (cI, 200, .inl (fun _ => 0))), (q17, .inl (cZ, 164, .inl (fun _ => 0))), (q26, .inl (cZ, 984, .inl (fun _ => 0))), (q35, .inl (cZ, 164, .inl (fun _ => 0))), (q43, .inl (cI, 41, .inl (fun _ => 0))), (q51, .inl (cI, 41, .inl (fun _ => 0))), (q60, .inl (cZ, 241, .inl (fun _ => 0))), (q69, .inl (cZ, 241, .inl (fun _ => 0))), (q76, .inl (cI, 5, .inl (fun _ => 0))), (q84, .inl (cI, 7, .inl (fun _ => 0))), (q91, .inl (cI, 19, .inl w1))] := by rw [ew1]; exact hD
  refine lv_dup hx hb dX8_init_97 rfl ?_
  refine lv_iconst (v := 1) hx hb dX8_init_98 (by decide) ?_
  refine lv_iconst (v := 1) hx hb dX8_init_99 (by decide) ?_
  refine va_iast hx hb hN.1 hP hD hS 11 0 rfl rfl (ix_in (by decide)) dX8_init_100 (fun H locs hP hD hS => ?_)
  obtain ⟨w2, ew2⟩ : ∃ z : Nat → Int32, z = (upd w1 1 1) := ⟨_, rfl⟩
  have hP : va_P D vwCl [(a_this, .inr (8, [.int 0, .ref q8, .ref q17, .ref q26, .int 0, .ref q35, .int 0, .ref q43, .ref q51, .ref q60, .ref q69, .int 0, .int 0, .ref q76, .ref q84, .int 0, .int 0])), (q8, .inl (cI, 200, .inl (fun _ => 0))), (q17, .inl (cZ, 164, .inl (fun _ => 0))), (q26, .inl (cZ, 984, .inl (fun _ => 0))), (q35, .inl (cZ, 164, .inl (fun _ => 0))), (q43, .inl (cI, 41, .inl (fun _ => 0))), (q51, .inl (cI, 41, .inl (fun _ => 0))), (q60, .inl (cZ, 241, .inl (fun _ => 0))), (q69, .inl (cZ, 241, .inl (fun _ => 0))), (q76, .inl (cI, 5, .inl (fun _ => 0))), (q84, .inl (cI, 7, .inl (fun _ => 0))), (q91, .inl (cI, 19, .inl w2))] H := by rw [ew2]; exact hP
  have hD : va_D A [(a_this, .inr (8, [.int 0, .ref q8, .ref q17, .ref q26, .int 0, .ref q35, .int 0, .ref q43, .ref q51, .ref q60, .ref q69, .int 0, .int 0, .ref q76, .ref q84, .int 0, .int 0])), (q8, .inl (cI, 200, .inl (fun _ => 0))), (q17, .inl (cZ, 164, .inl (fun _ => 0))), (q26, .inl (cZ, 984, .inl (fun _ => 0))), (q35, .inl (cZ, 164, .inl (fun _ => 0))), (q43, .inl (cI, 41, .inl (fun _ => 0))), (q51, .inl (cI, 41, .inl (fun _ => 0))), (q60, .inl (cZ, 241, .inl (fun _ => 0))), (q69, .inl (cZ, 241, .inl (fun _ => 0))), (q76, .inl (cI, 5, .inl (fun _ => 0))), (q84, .inl (cI, 7, .inl (fun _ => 0))), (q91, .inl (cI, 19, .inl w2))] := by rw [ew2]; exact hD
  refine lv_dup hx hb dX8_init_101 rfl ?_
  refine lv_iconst (v := 2) hx hb dX8_init_102 (by decide) ?_
  refine lv_iconst (v := 2) hx hb dX8_init_103 (by decide) ?_
  refine va_iast hx hb hN.1 hP hD hS 11 0 rfl rfl (ix_in (by decide)) dX8_init_104 (fun H locs hP hD hS => ?_)
  obtain ⟨w3, ew3⟩ : ∃ z : Nat → Int32, z = (upd w2 2 2) := ⟨_, rfl⟩
  have hP : va_P D vwCl [(a_this, .inr (8, [.int 0, .ref q8, .ref q17, .ref q26, .int 0, .ref q35, .int 0, .ref q43, .ref q51, .ref q60, .ref q69, .int 0, .int 0, .ref q76, .ref q84, .int 0, .int 0])), (q8, .inl (cI, 200, .inl (fun _ => 0))), (q17, .inl (cZ, 164, .inl (fun _ => 0))), (q26, .inl (cZ, 984, .inl (fun _ => 0))), (q35, .inl (cZ, 164, .inl (fun _ => 0))), (q43, .inl (cI, 41, .inl (fun _ => 0))), (q51, .inl (cI, 41, .inl (fun _ => 0))), (q60, .inl (cZ, 241, .inl (fun _ => 0))), (q69, .inl (cZ, 241, .inl (fun _ => 0))), (q76, .inl (cI, 5, .inl (fun _ => 0))), (q84, .inl (cI, 7, .inl (fun _ => 0))), (q91, .inl (cI, 19, .inl w3))] H := by rw [ew3]; exact hP
  have hD : va_D A [(a_this, .inr (8, [.int 0, .ref q8, .ref q17, .ref q26, .int 0, .ref q35, .int 0, .ref q43, .ref q51, .ref q60, .ref q69, .int 0, .int 0, .ref q76, .ref q84, .int 0, .int 0])), (q8, .inl (cI, 200, .inl (fun _ => 0))), (q17, .inl (cZ, 164, .inl (fun _ => 0))), (q26, .inl (cZ, 984, .inl (fun _ => 0))), (q35, .inl (cZ, 164, .inl (fun _ => 0))), (q43, .inl (cI, 41, .inl (fun _ => 0))), (q51, .inl (cI, 41, .inl (fun _ => 0))), (q60, .inl (cZ, 241, .inl (fun _ => 0))), (q69, .inl (cZ, 241, .inl (fun _ => 0))), (q76, .inl (cI, 5, .inl (fun _ => 0))), (q84, .inl (cI, 7, .inl (fun _ => 0))), (q91, .inl (cI, 19, .inl w3))] := by rw [ew3]; exact hD
  refine lv_dup hx hb dX8_init_105 rfl ?_
  refine lv_iconst (v := 3) hx hb dX8_init_106 (by decide) ?_
  refine lv_iconst (v := 5) hx hb dX8_init_107 (by decide) ?_
  refine va_iast hx hb hN.1 hP hD hS 11 0 rfl rfl (ix_in (by decide)) dX8_init_108 (fun H locs hP hD hS => ?_)
  obtain ⟨w4, ew4⟩ : ∃ z : Nat → Int32, z = (upd w3 3 5) := ⟨_, rfl⟩
  have hP : va_P D vwCl [(a_this, .inr (8, [.int 0, .ref q8, .ref q17, .ref q26, .int 0, .ref q35, .int 0, .ref q43, .ref q51, .ref q60, .ref q69, .int 0, .int 0, .ref q76, .ref q84, .int 0, .int 0])), (q8, .inl (cI, 200, .inl (fun _ => 0))), (q17, .inl (cZ, 164, .inl (fun _ => 0))), (q26, .inl (cZ, 984, .inl (fun _ => 0))), (q35, .inl (cZ, 164, .inl (fun _ => 0))), (q43, .inl (cI, 41, .inl (fun _ => 0))), (q51, .inl (cI, 41, .inl (fun _ => 0))), (q60, .inl (cZ, 241, .inl (fun _ => 0))), (q69, .inl (cZ, 241, .inl (fun _ => 0))), (q76, .inl (cI, 5, .inl (fun _ => 0))), (q84, .inl (cI, 7, .inl (fun _ => 0))), (q91, .inl (cI, 19, .inl w4))] H := by rw [ew4]; exact hP
  have hD : va_D A [(a_this, .inr (8, [.int 0, .ref q8, .ref q17, .ref q26, .int 0, .ref q35, .int 0, .ref q43, .ref q51, .ref q60, .ref q69, .int 0, .int 0, .ref q76, .ref q84, .int 0, .int 0])), (q8, .inl (cI, 200, .inl (fun _ => 0))), (q17, .inl (cZ, 164, .inl (fun _ => 0))), (q26, .inl (cZ, 984, .inl (fun _ => 0))), (q35, .inl (cZ, 164, .inl (fun _ => 0))), (q43, .inl (cI, 41, .inl (fun _ => 0))), (q51, .inl (cI, 41, .inl (fun _ => 0))), (q60, .inl (cZ, 241, .inl (fun _ => 0))), (q69, .inl (cZ, 241, .inl (fun _ => 0))), (q76, .inl (cI, 5, .inl (fun _ => 0))), (q84, .inl (cI, 7, .inl (fun _ => 0))), (q91, .inl (cI, 19, .inl w4))] := by rw [ew4]; exact hD
  refine lv_dup hx hb dX8_init_109 rfl ?_
  refine lv_iconst (v := 4) hx hb dX8_init_110 (by decide) ?_
  refine lv_bipush (v := 41) hx hb dX8_init_111 (by decide) ?_
  refine va_iast hx hb hN.1 hP hD hS 11 0 rfl rfl (ix_in (by decide)) dX8_init_113 (fun H locs hP hD hS => ?_)
  obtain ⟨w5, ew5⟩ : ∃ z : Nat → Int32, z = (upd w4 4 41) := ⟨_, rfl⟩
  have hP : va_P D vwCl [(a_this, .inr (8, [.int 0, .ref q8, .ref q17, .ref q26, .int 0, .ref q35, .int 0, .ref q43, .ref q51, .ref q60, .ref q69, .int 0, .int 0, .ref q76, .ref q84, .int 0, .int 0])), (q8, .inl (cI, 200, .inl (fun _ => 0))), (q17, .inl (cZ, 164, .inl (fun _ => 0))), (q26, .inl (cZ, 984, .inl (fun _ => 0))), (q35, .inl (cZ, 164, .inl (fun _ => 0))), (q43, .inl (cI, 41, .inl (fun _ => 0))), (q51, .inl (cI, 41, .inl (fun _ => 0))), (q60, .inl (cZ, 241, .inl (fun _ => 0))), (q69, .inl (cZ, 241, .inl (fun _ => 0))), (q76, .inl (cI, 5, .inl (fun _ => 0))), (q84, .inl (cI, 7, .inl (fun _ => 0))), (q91, .inl (cI, 19, .inl w5))] H := by rw [ew5]; exact hP
  have hD : va_D A [(a_this, .inr (8, [.int 0, .ref q8, .ref q17, .ref q26, .int 0, .ref q35, .int 0, .ref q43, .ref q51, .ref q60, .ref q69, .int 0, .int 0, .ref q76, .ref q84, .int 0, .int 0])), (q8, .inl (cI, 200, .inl (fun _ => 0))), (q17, .inl (cZ, 164, .inl (fun _ => 0))), (q26, .inl (cZ, 984, .inl (fun _ => 0))), (q35, .inl (cZ, 164, .inl (fun _ => 0))), (q43, .inl (cI, 41, .inl (fun _ => 0))), (q51, .inl (cI, 41, .inl (fun _ => 0))), (q60, .inl (cZ, 241, .inl (fun _ => 0))), (q69, .inl (cZ, 241, .inl (fun _ => 0))), (q76, .inl (cI, 5, .inl (fun _ => 0))), (q84, .inl (cI, 7, .inl (fun _ => 0))), (q91, .inl (cI, 19, .inl w5))] := by rw [ew5]; exact hD
  refine lv_dup hx hb dX8_init_114 rfl ?_
  refine lv_iconst (v := 5) hx hb dX8_init_115 (by decide) ?_
  refine lv_bipush (v := 42) hx hb dX8_init_116 (by decide) ?_
  refine va_iast hx hb hN.1 hP hD hS 11 0 rfl rfl (ix_in (by decide)) dX8_init_118 (fun H locs hP hD hS => ?_)
  obtain ⟨w6, ew6⟩ : ∃ z : Nat → Int32, z = (upd w5 5 42) := ⟨_, rfl⟩
  have hP : va_P D vwCl [(a_this, .inr (8, [.int 0, .ref q8, .ref q17, .ref q26, .int 0, .ref q35, .int 0, .ref q43, .ref q51, .ref q60, .ref q69, .int 0, .int 0, .ref q76, .ref q84, .int 0, .int 0])), (q8, .inl (cI, 200, .inl (fun _ => 0))), (q17, .inl (cZ, 164, .inl (fun _ => 0))), (q26, .inl (cZ, 984, .inl (fun _ => 0))), (q35, .inl (cZ, 164, .inl (fun _ => 0))), (q43, .inl (cI, 41, .inl (fun _ => 0))), (q51, .inl (cI, 41, .inl (fun _ => 0))), (q60, .inl (cZ, 241, .inl (fun _ => 0))), (q69, .inl (cZ, 241, .inl (fun _ => 0))), (q76, .inl (cI, 5, .inl (fun _ => 0))), (q84, .inl (cI, 7, .inl (fun _ => 0))), (q91, .inl (cI, 19, .inl w6))] H := by rw [ew6]; exact hP
  have hD : va_D A [(a_this, .inr (8, [.int 0, .ref q8, .ref q17, .ref q26, .int 0, .ref q35, .int 0, .ref q43, .ref q51, .ref q60, .ref q69, .int 0, .int 0, .ref q76, .ref q84, .int 0, .int 0])), (q8, .inl (cI, 200, .inl (fun _ => 0))), (q17, .inl (cZ, 164, .inl (fun _ => 0))), (q26, .inl (cZ, 984, .inl (fun _ => 0))), (q35, .inl (cZ, 164, .inl (fun _ => 0))), (q43, .inl (cI, 41, .inl (fun _ => 0))), (q51, .inl (cI, 41, .inl (fun _ => 0))), (q60, .inl (cZ, 241, .inl (fun _ => 0))), (q69, .inl (cZ, 241, .inl (fun _ => 0))), (q76, .inl (cI, 5, .inl (fun _ => 0))), (q84, .inl (cI, 7, .inl (fun _ => 0))), (q91, .inl (cI, 19, .inl w6))] := by rw [ew6]; exact hD
  refine lv_dup hx hb dX8_init_119 rfl ?_
  refine lv_bipush (v := 6) hx hb dX8_init_120 (by decide) ?_
  refine lv_bipush (v := 45) hx hb dX8_init_122 (by decide) ?_
  refine va_iast hx hb hN.1 hP hD hS 11 0 rfl rfl (ix_in (by decide)) dX8_init_124 (fun H locs hP hD hS => ?_)
  obtain ⟨w7, ew7⟩ : ∃ z : Nat → Int32, z = (upd w6 6 45) := ⟨_, rfl⟩
  have hP : va_P D vwCl [(a_this, .inr (8, [.int 0, .ref q8, .ref q17, .ref q26, .int 0, .ref q35, .int 0, .ref q43, .ref q51, .ref q60, .ref q69, .int 0, .int 0, .ref q76, .ref q84, .int 0, .int 0])), (q8, .inl (cI, 200, .inl (fun _ => 0))), (q17, .inl (cZ, 164, .inl (fun _ => 0))), (q26, .inl (cZ, 984, .inl (fun _ => 0))), (q35, .inl (cZ, 164, .inl (fun _ => 0))), (q43, .inl (cI, 41, .inl (fun _ => 0))), (q51, .inl (cI, 41, .inl (fun _ => 0))), (q60, .inl (cZ, 241, .inl (fun _ => 0))), (q69, .inl (cZ, 241, .inl (fun _ => 0))), (q76, .inl (cI, 5, .inl (fun _ => 0))), (q84, .inl (cI, 7, .inl (fun _ => 0))), (q91, .inl (cI, 19, .inl w7))] H := by rw [ew7]; exact hP
  have hD : va_D A [(a_this, .inr (8, [.int 0, .ref q8, .ref q17, .ref q26, .int 0, .ref q35, .int 0, .ref q43, .ref q51, .ref q60, .ref q69, .int 0, .int 0, .ref q76, .ref q84, .int 0, .int 0])), (q8, .inl (cI, 200, .inl (fun _ => 0))), (q17, .inl (cZ, 164, .inl (fun _ => 0))), (q26, .inl (cZ, 984, .inl (fun _ => 0))), (q35, .inl (cZ, 164, .inl (fun _ => 0))), (q43, .inl (cI, 41, .inl (fun _ => 0))), (q51, .inl (cI, 41, .inl (fun _ => 0))), (q60, .inl (cZ, 241, .inl (fun _ => 0))), (q69, .inl (cZ, 241, .inl (fun _ => 0))), (q76, .inl (cI, 5, .inl (fun _ => 0))), (q84, .inl (cI, 7, .inl (fun _ => 0))), (q91, .inl (cI, 19, .inl w7))] := by rw [ew7]; exact hD
  refine lv_dup hx hb dX8_init_125 rfl ?_
  refine lv_bipush (v := 7) hx hb dX8_init_126 (by decide) ?_
  refine lv_bipush (v := 46) hx hb dX8_init_128 (by decide) ?_
  refine va_iast hx hb hN.1 hP hD hS 11 0 rfl rfl (ix_in (by decide)) dX8_init_130 (fun H locs hP hD hS => ?_)
  obtain ⟨w8, ew8⟩ : ∃ z : Nat → Int32, z = (upd w7 7 46) := ⟨_, rfl⟩
  have hP : va_P D vwCl [(a_this, .inr (8, [.int 0, .ref q8, .ref q17, .ref q26, .int 0, .ref q35, .int 0, .ref q43, .ref q51, .ref q60, .ref q69, .int 0, .int 0, .ref q76, .ref q84, .int 0, .int 0])), (q8, .inl (cI, 200, .inl (fun _ => 0))), (q17, .inl (cZ, 164, .inl (fun _ => 0))), (q26, .inl (cZ, 984, .inl (fun _ => 0))), (q35, .inl (cZ, 164, .inl (fun _ => 0))), (q43, .inl (cI, 41, .inl (fun _ => 0))), (q51, .inl (cI, 41, .inl (fun _ => 0))), (q60, .inl (cZ, 241, .inl (fun _ => 0))), (q69, .inl (cZ, 241, .inl (fun _ => 0))), (q76, .inl (cI, 5, .inl (fun _ => 0))), (q84, .inl (cI, 7, .inl (fun _ => 0))), (q91, .inl (cI, 19, .inl w8))] H := by rw [ew8]; exact hP
  have hD : va_D A [(a_this, .inr (8, [.int 0, .ref q8, .ref q17, .ref q26, .int 0, .ref q35, .int 0, .ref q43, .ref q51, .ref q60, .ref q69, .int 0, .int 0, .ref q76, .ref q84, .int 0, .int 0])), (q8, .inl (cI, 200, .inl (fun _ => 0))), (q17, .inl (cZ, 164, .inl (fun _ => 0))), (q26, .inl (cZ, 984, .inl (fun _ => 0))), (q35, .inl (cZ, 164, .inl (fun _ => 0))), (q43, .inl (cI, 41, .inl (fun _ => 0))), (q51, .inl (cI, 41, .inl (fun _ => 0))), (q60, .inl (cZ, 241, .inl (fun _ => 0))), (q69, .inl (cZ, 241, .inl (fun _ => 0))), (q76, .inl (cI, 5, .inl (fun _ => 0))), (q84, .inl (cI, 7, .inl (fun _ => 0))), (q91, .inl (cI, 19, .inl w8))] := by rw [ew8]; exact hD
  refine lv_dup hx hb dX8_init_131 rfl ?_
  refine lv_bipush (v := 8) hx hb dX8_init_132 (by decide) ?_
  refine lv_bipush (v := 82) hx hb dX8_init_134 (by decide) ?_
  refine va_iast hx hb hN.1 hP hD hS 11 0 rfl rfl (ix_in (by decide)) dX8_init_136 (fun H locs hP hD hS => ?_)
  obtain ⟨w9, ew9⟩ : ∃ z : Nat → Int32, z = (upd w8 8 82) := ⟨_, rfl⟩
  have hP : va_P D vwCl [(a_this, .inr (8, [.int 0, .ref q8, .ref q17, .ref q26, .int 0, .ref q35, .int 0, .ref q43, .ref q51, .ref q60, .ref q69, .int 0, .int 0, .ref q76, .ref q84, .int 0, .int 0])), (q8, .inl (cI, 200, .inl (fun _ => 0))), (q17, .inl (cZ, 164, .inl (fun _ => 0))), (q26, .inl (cZ, 984, .inl (fun _ => 0))), (q35, .inl (cZ, 164, .inl (fun _ => 0))), (q43, .inl (cI, 41, .inl (fun _ => 0))), (q51, .inl (cI, 41, .inl (fun _ => 0))), (q60, .inl (cZ, 241, .inl (fun _ => 0))), (q69, .inl (cZ, 241, .inl (fun _ => 0))), (q76, .inl (cI, 5, .inl (fun _ => 0))), (q84, .inl (cI, 7, .inl (fun _ => 0))), (q91, .inl (cI, 19, .inl w9))] H := by rw [ew9]; exact hP
  have hD : va_D A [(a_this, .inr (8, [.int 0, .ref q8, .ref q17, .ref q26, .int 0, .ref q35, .int 0, .ref q43, .ref q51, .ref q60, .ref q69, .int 0, .int 0, .ref q76, .ref q84, .int 0, .int 0])), (q8, .inl (cI, 200, .inl (fun _ => 0))), (q17, .inl (cZ, 164, .inl (fun _ => 0))), (q26, .inl (cZ, 984, .inl (fun _ => 0))), (q35, .inl (cZ, 164, .inl (fun _ => 0))), (q43, .inl (cI, 41, .inl (fun _ => 0))), (q51, .inl (cI, 41, .inl (fun _ => 0))), (q60, .inl (cZ, 241, .inl (fun _ => 0))), (q69, .inl (cZ, 241, .inl (fun _ => 0))), (q76, .inl (cI, 5, .inl (fun _ => 0))), (q84, .inl (cI, 7, .inl (fun _ => 0))), (q91, .inl (cI, 19, .inl w9))] := by rw [ew9]; exact hD
  refine lv_dup hx hb dX8_init_137 rfl ?_
  refine lv_bipush (v := 9) hx hb dX8_init_138 (by decide) ?_
  refine lv_bipush (v := 85) hx hb dX8_init_140 (by decide) ?_
  refine va_iast hx hb hN.1 hP hD hS 11 0 rfl rfl (ix_in (by decide)) dX8_init_142 (fun H locs hP hD hS => ?_)
  obtain ⟨w10, ew10⟩ : ∃ z : Nat → Int32, z = (upd w9 9 85) := ⟨_, rfl⟩
  have hP : va_P D vwCl [(a_this, .inr (8, [.int 0, .ref q8, .ref q17, .ref q26, .int 0, .ref q35, .int 0, .ref q43, .ref q51, .ref q60, .ref q69, .int 0, .int 0, .ref q76, .ref q84, .int 0, .int 0])), (q8, .inl (cI, 200, .inl (fun _ => 0))), (q17, .inl (cZ, 164, .inl (fun _ => 0))), (q26, .inl (cZ, 984, .inl (fun _ => 0))), (q35, .inl (cZ, 164, .inl (fun _ => 0))), (q43, .inl (cI, 41, .inl (fun _ => 0))), (q51, .inl (cI, 41, .inl (fun _ => 0))), (q60, .inl (cZ, 241, .inl (fun _ => 0))), (q69, .inl (cZ, 241, .inl (fun _ => 0))), (q76, .inl (cI, 5, .inl (fun _ => 0))), (q84, .inl (cI, 7, .inl (fun _ => 0))), (q91, .inl (cI, 19, .inl w10))] H := by rw [ew10]; exact hP
  have hD : va_D A [(a_this, .inr (8, [.int 0, .ref q8, .ref q17, .ref q26, .int 0, .ref q35, .int 0, .ref q43, .ref q51, .ref q60, .ref q69, .int 0, .int 0, .ref q76, .ref q84, .int 0, .int 0])), (q8, .inl (cI, 200, .inl (fun _ => 0))), (q17, .inl (cZ, 164, .inl (fun _ => 0))), (q26, .inl (cZ, 984, .inl (fun _ => 0))), (q35, .inl (cZ, 164, .inl (fun _ => 0))), (q43, .inl (cI, 41, .inl (fun _ => 0))), (q51, .inl (cI, 41, .inl (fun _ => 0))), (q60, .inl (cZ, 241, .inl (fun _ => 0))), (q69, .inl (cZ, 241, .inl (fun _ => 0))), (q76, .inl (cI, 5, .inl (fun _ => 0))), (q84, .inl (cI, 7, .inl (fun _ => 0))), (q91, .inl (cI, 19, .inl w10))] := by rw [ew10]; exact hD
  refine lv_dup hx hb dX8_init_143 rfl ?_
  refine lv_bipush (v := 10) hx hb dX8_init_144 (by decide) ?_
  refine lv_bipush (v := 88) hx hb dX8_init_146 (by decide) ?_
  refine va_iast hx hb hN.1 hP hD hS 11 0 rfl rfl (ix_in (by decide)) dX8_init_148 (fun H locs hP hD hS => ?_)
  obtain ⟨w11, ew11⟩ : ∃ z : Nat → Int32, z = (upd w10 10 88) := ⟨_, rfl⟩
  have hP : va_P D vwCl [(a_this, .inr (8, [.int 0, .ref q8, .ref q17, .ref q26, .int 0, .ref q35, .int 0, .ref q43, .ref q51, .ref q60, .ref q69, .int 0, .int 0, .ref q76, .ref q84, .int 0, .int 0])), (q8, .inl (cI, 200, .inl (fun _ => 0))), (q17, .inl (cZ, 164, .inl (fun _ => 0))), (q26, .inl (cZ, 984, .inl (fun _ => 0))), (q35, .inl (cZ, 164, .inl (fun _ => 0))), (q43, .inl (cI, 41, .inl (fun _ => 0))), (q51, .inl (cI, 41, .inl (fun _ => 0))), (q60, .inl (cZ, 241, .inl (fun _ => 0))), (q69, .inl (cZ, 241, .inl (fun _ => 0))), (q76, .inl (cI, 5, .inl (fun _ => 0))), (q84, .inl (cI, 7, .inl (fun _ => 0))), (q91, .inl (cI, 19, .inl w11))] H := by rw [ew11]; exact hP
  have hD : va_D A [(a_this, .inr (8, [.int 0, .ref q8, .ref q17, .ref q26, .int 0, .ref q35, .int 0, .ref q43, .ref q51, .ref q60, .ref q69, .int 0, .int 0, .ref q76, .ref q84, .int 0, .int 0])), (q8, .inl (cI, 200, .inl (fun _ => 0))), (q17, .inl (cZ, 164, .inl (fun _ => 0))), (q26, .inl (cZ, 984, .inl (fun _ => 0))), (q35, .inl (cZ, 164, .inl (fun _ => 0))), (q43, .inl (cI, 41, .inl (fun _ => 0))), (q51, .inl (cI, 41, .inl (fun _ => 0))), (q60, .inl (cZ, 241, .inl (fun _ => 0))), (q69, .inl (cZ, 241, .inl (fun _ => 0))), (q76, .inl (cI, 5, .inl (fun _ => 0))), (q84, .inl (cI, 7, .inl (fun _ => 0))), (q91, .inl (cI, 19, .inl w11))] := by rw [ew11]; exact hD
  refine lv_dup hx hb dX8_init_149 rfl ?_
  refine lv_bipush (v := 11) hx hb dX8_init_150 (by decide) ?_
  refine lv_bipush (v := 91) hx hb dX8_init_152 (by decide) ?_
  refine va_iast hx hb hN.1 hP hD hS 11 0 rfl rfl (ix_in (by decide)) dX8_init_154 (fun H locs hP hD hS => ?_)
  obtain ⟨w12, ew12⟩ : ∃ z : Nat → Int32, z = (upd w11 11 91) := ⟨_, rfl⟩
  have hP : va_P D vwCl [(a_this, .inr (8, [.int 0, .ref q8, .ref q17, .ref q26, .int 0, .ref q35, .int 0, .ref q43, .ref q51, .ref q60, .ref q69, .int 0, .int 0, .ref q76, .ref q84, .int 0, .int 0])), (q8, .inl (cI, 200, .inl (fun _ => 0))), (q17, .inl (cZ, 164, .inl (fun _ => 0))), (q26, .inl (cZ, 984, .inl (fun _ => 0))), (q35, .inl (cZ, 164, .inl (fun _ => 0))), (q43, .inl (cI, 41, .inl (fun _ => 0))), (q51, .inl (cI, 41, .inl (fun _ => 0))), (q60, .inl (cZ, 241, .inl (fun _ => 0))), (q69, .inl (cZ, 241, .inl (fun _ => 0))), (q76, .inl (cI, 5, .inl (fun _ => 0))), (q84, .inl (cI, 7, .inl (fun _ => 0))), (q91, .inl (cI, 19, .inl w12))] H := by rw [ew12]; exact hP
  have hD : va_D A [(a_this, .inr (8, [.int 0, .ref q8, .ref q17, .ref q26, .int 0, .ref q35, .int 0, .ref q43, .ref q51, .ref q60, .ref q69, .int 0, .int 0, .ref q76, .ref q84, .int 0, .int 0])), (q8, .inl (cI, 200, .inl (fun _ => 0))), (q17, .inl (cZ, 164, .inl (fun _ => 0))), (q26, .inl (cZ, 984, .inl (fun _ => 0))), (q35, .inl (cZ, 164, .inl (fun _ => 0))), (q43, .inl (cI, 41, .inl (fun _ => 0))), (q51, .inl (cI, 41, .inl (fun _ => 0))), (q60, .inl (cZ, 241, .inl (fun _ => 0))), (q69, .inl (cZ, 241, .inl (fun _ => 0))), (q76, .inl (cI, 5, .inl (fun _ => 0))), (q84, .inl (cI, 7, .inl (fun _ => 0))), (q91, .inl (cI, 19, .inl w12))] := by rw [ew12]; exact hD
  refine lv_dup hx hb dX8_init_155 rfl ?_
  refine lv_bipush (v := 12) hx hb dX8_init_156 (by decide) ?_
  refine lv_bipush (v := 94) hx hb dX8_init_158 (by decide) ?_
  refine va_iast hx hb hN.1 hP hD hS 11 0 rfl rfl (ix_in (by decide)) dX8_init_160 (fun H locs hP hD hS => ?_)
  obtain ⟨w13, ew13⟩ : ∃ z : Nat → Int32, z = (upd w12 12 94) := ⟨_, rfl⟩
  have hP : va_P D vwCl [(a_this, .inr (8, [.int 0, .ref q8, .ref q17, .ref q26, .int 0, .ref q35, .int 0, .ref q43, .ref q51, .ref q60, .ref q69, .int 0, .int 0, .ref q76, .ref q84, .int 0, .int 0])), (q8, .inl (cI, 200, .inl (fun _ => 0))), (q17, .inl (cZ, 164, .inl (fun _ => 0))), (q26, .inl (cZ, 984, .inl (fun _ => 0))), (q35, .inl (cZ, 164, .inl (fun _ => 0))), (q43, .inl (cI, 41, .inl (fun _ => 0))), (q51, .inl (cI, 41, .inl (fun _ => 0))), (q60, .inl (cZ, 241, .inl (fun _ => 0))), (q69, .inl (cZ, 241, .inl (fun _ => 0))), (q76, .inl (cI, 5, .inl (fun _ => 0))), (q84, .inl (cI, 7, .inl (fun _ => 0))), (q91, .inl (cI, 19, .inl w13))] H := by rw [ew13]; exact hP
  have hD : va_D A [(a_this, .inr (8, [.int 0, .ref q8, .ref q17, .ref q26, .int 0, .ref q35, .int 0, .ref q43, .ref q51, .ref q60, .ref q69, .int 0, .int 0, .ref q76, .ref q84, .int 0, .int 0])), (q8, .inl (cI, 200, .inl (fun _ => 0))), (q17, .inl (cZ, 164, .inl (fun _ => 0))), (q26, .inl (cZ, 984, .inl (fun _ => 0))), (q35, .inl (cZ, 164, .inl (fun _ => 0))), (q43, .inl (cI, 41, .inl (fun _ => 0))), (q51, .inl (cI, 41, .inl (fun _ => 0))), (q60, .inl (cZ, 241, .inl (fun _ => 0))), (q69, .inl (cZ, 241, .inl (fun _ => 0))), (q76, .inl (cI, 5, .inl (fun _ => 0))), (q84, .inl (cI, 7, .inl (fun _ => 0))), (q91, .inl (cI, 19, .inl w13))] := by rw [ew13]; exact hD
  refine lv_dup hx hb dX8_init_161 rfl ?_
  refine lv_bipush (v := 13) hx hb dX8_init_162 (by decide) ?_
  refine lv_bipush (v := 123) hx hb dX8_init_164 (by decide) ?_
  refine va_iast hx hb hN.1 hP hD hS 11 0 rfl rfl (ix_in (by decide)) dX8_init_166 (fun H locs hP hD hS => ?_)
  obtain ⟨w14, ew14⟩ : ∃ z : Nat → Int32, z = (upd w13 13 123) := ⟨_, rfl⟩
  have hP : va_P D vwCl [(a_this, .inr (8, [.int 0, .ref q8, .ref q17, .ref q26, .int 0, .ref q35, .int 0, .ref q43, .ref q51, .ref q60, .ref q69, .int 0, .int 0, .ref q76, .ref q84, .int 0, .int 0])), (q8, .inl (cI, 200, .inl (fun _ => 0))), (q17, .inl (cZ, 164, .inl (fun _ => 0))), (q26, .inl (cZ, 984, .inl (fun _ => 0))), (q35, .inl (cZ, 164, .inl (fun _ => 0))), (q43, .inl (cI, 41, .inl (fun _ => 0))), (q51, .inl (cI, 41, .inl (fun _ => 0))), (q60, .inl (cZ, 241, .inl (fun _ => 0))), (q69, .inl (cZ, 241, .inl (fun _ => 0))), (q76, .inl (cI, 5, .inl (fun _ => 0))), (q84, .inl (cI, 7, .inl (fun _ => 0))), (q91, .inl (cI, 19, .inl w14))] H := by rw [ew14]; exact hP
  have hD : va_D A [(a_this, .inr (8, [.int 0, .ref q8, .ref q17, .ref q26, .int 0, .ref q35, .int 0, .ref q43, .ref q51, .ref q60, .ref q69, .int 0, .int 0, .ref q76, .ref q84, .int 0, .int 0])), (q8, .inl (cI, 200, .inl (fun _ => 0))), (q17, .inl (cZ, 164, .inl (fun _ => 0))), (q26, .inl (cZ, 984, .inl (fun _ => 0))), (q35, .inl (cZ, 164, .inl (fun _ => 0))), (q43, .inl (cI, 41, .inl (fun _ => 0))), (q51, .inl (cI, 41, .inl (fun _ => 0))), (q60, .inl (cZ, 241, .inl (fun _ => 0))), (q69, .inl (cZ, 241, .inl (fun _ => 0))), (q76, .inl (cI, 5, .inl (fun _ => 0))), (q84, .inl (cI, 7, .inl (fun _ => 0))), (q91, .inl (cI, 19, .inl w14))] := by rw [ew14]; exact hD
  refine lv_dup hx hb dX8_init_167 rfl ?_
  refine lv_bipush (v := 14) hx hb dX8_init_168 (by decide) ?_
  refine lv_bipush (v := 124) hx hb dX8_init_170 (by decide) ?_
  refine va_iast hx hb hN.1 hP hD hS 11 0 rfl rfl (ix_in (by decide)) dX8_init_172 (fun H locs hP hD hS => ?_)
  obtain ⟨w15, ew15⟩ : ∃ z : Nat → Int32, z = (upd w14 14 124) := ⟨_, rfl⟩
  have hP : va_P D vwCl [(a_this, .inr (8, [.int 0, .ref q8, .ref q17, .ref q26, .int 0, .ref q35, .int 0, .ref q43, .ref q51, .ref q60, .ref q69, .int 0, .int 0, .ref q76, .ref q84, .int 0, .int 0])), (q8, .inl (cI, 200, .inl (fun _ => 0))), (q17, .inl (cZ, 164, .inl (fun _ => 0))), (q26, .inl (cZ, 984, .inl (fun _ => 0))), (q35, .inl (cZ, 164, .inl (fun _ => 0))), (q43, .inl (cI, 41, .inl (fun _ => 0))), (q51, .inl (cI, 41, .inl (fun _ => 0))), (q60, .inl (cZ, 241, .inl (fun _ => 0))), (q69, .inl (cZ, 241, .inl (fun _ => 0))), (q76, .inl (cI, 5, .inl (fun _ => 0))), (q84, .inl (cI, 7, .inl (fun _ => 0))), (q91, .inl (cI, 19, .inl w15))] H := by rw [ew15]; exact hP
  have hD : va_D A [(a_this, .inr (8, [.int 0, .ref q8, .ref q17, .ref q26, .int 0, .ref q35, .int 0, .ref q43, .ref q51, .ref q60, .ref q69, .int 0, .int 0, .ref q76, .ref q84, .int 0, .int 0])), (q8, .inl (cI, 200, .inl (fun _ => 0))), (q17, .inl (cZ, 164, .inl (fun _ => 0))), (q26, .inl (cZ, 984, .inl (fun _ => 0))), (q35, .inl (cZ, 164, .inl (fun _ => 0))), (q43, .inl (cI, 41, .inl (fun _ => 0))), (q51, .inl (cI, 41, .inl (fun _ => 0))), (q60, .inl (cZ, 241, .inl (fun _ => 0))), (q69, .inl (cZ, 241, .inl (fun _ => 0))), (q76, .inl (cI, 5, .inl (fun _ => 0))), (q84, .inl (cI, 7, .inl (fun _ => 0))), (q91, .inl (cI, 19, .inl w15))] := by rw [ew15]; exact hD
  refine lv_dup hx hb dX8_init_173 rfl ?_
  refine lv_bipush (v := 15) hx hb dX8_init_174 (by decide) ?_
  refine lv_sipush (v := 133) hx hb dX8_init_176 (by decide) ?_
  refine va_iast hx hb hN.1 hP hD hS 11 0 rfl rfl (ix_in (by decide)) dX8_init_179 (fun H locs hP hD hS => ?_)
  obtain ⟨w16, ew16⟩ : ∃ z : Nat → Int32, z = (upd w15 15 133) := ⟨_, rfl⟩
  have hP : va_P D vwCl [(a_this, .inr (8, [.int 0, .ref q8, .ref q17, .ref q26, .int 0, .ref q35, .int 0, .ref q43, .ref q51, .ref q60, .ref q69, .int 0, .int 0, .ref q76, .ref q84, .int 0, .int 0])), (q8, .inl (cI, 200, .inl (fun _ => 0))), (q17, .inl (cZ, 164, .inl (fun _ => 0))), (q26, .inl (cZ, 984, .inl (fun _ => 0))), (q35, .inl (cZ, 164, .inl (fun _ => 0))), (q43, .inl (cI, 41, .inl (fun _ => 0))), (q51, .inl (cI, 41, .inl (fun _ => 0))), (q60, .inl (cZ, 241, .inl (fun _ => 0))), (q69, .inl (cZ, 241, .inl (fun _ => 0))), (q76, .inl (cI, 5, .inl (fun _ => 0))), (q84, .inl (cI, 7, .inl (fun _ => 0))), (q91, .inl (cI, 19, .inl w16))] H := by rw [ew16]; exact hP
  have hD : va_D A [(a_this, .inr (8, [.int 0, .ref q8, .ref q17, .ref q26, .int 0, .ref q35, .int 0, .ref q43, .ref q51, .ref q60, .ref q69, .int 0, .int 0, .ref q76, .ref q84, .int 0, .int 0])), (q8, .inl (cI, 200, .inl (fun _ => 0))), (q17, .inl (cZ, 164, .inl (fun _ => 0))), (q26, .inl (cZ, 984, .inl (fun _ => 0))), (q35, .inl (cZ, 164, .inl (fun _ => 0))), (q43, .inl (cI, 41, .inl (fun _ => 0))), (q51, .inl (cI, 41, .inl (fun _ => 0))), (q60, .inl (cZ, 241, .inl (fun _ => 0))), (q69, .inl (cZ, 241, .inl (fun _ => 0))), (q76, .inl (cI, 5, .inl (fun _ => 0))), (q84, .inl (cI, 7, .inl (fun _ => 0))), (q91, .inl (cI, 19, .inl w16))] := by rw [ew16]; exact hD
  refine lv_dup hx hb dX8_init_180 rfl ?_
  refine lv_bipush (v := 16) hx hb dX8_init_181 (by decide) ?_
  refine lv_sipush (v := 134) hx hb dX8_init_183 (by decide) ?_
  refine va_iast hx hb hN.1 hP hD hS 11 0 rfl rfl (ix_in (by decide)) dX8_init_186 (fun H locs hP hD hS => ?_)
  obtain ⟨w17, ew17⟩ : ∃ z : Nat → Int32, z = (upd w16 16 134) := ⟨_, rfl⟩
  have hP : va_P D vwCl [(a_this, .inr (8, [.int 0, .ref q8, .ref q17, .ref q26, .int 0, .ref q35, .int 0, .ref q43, .ref q51, .ref q60, .ref q69, .int 0, .int 0, .ref q76, .ref q84, .int 0, .int 0])), (q8, .inl (cI, 200, .inl (fun _ => 0))), (q17, .inl (cZ, 164, .inl (fun _ => 0))), (q26, .inl (cZ, 984, .inl (fun _ => 0))), (q35, .inl (cZ, 164, .inl (fun _ => 0))), (q43, .inl (cI, 41, .inl (fun _ => 0))), (q51, .inl (cI, 41, .inl (fun _ => 0))), (q60, .inl (cZ, 241, .inl (fun _ => 0))), (q69, .inl (cZ, 241, .inl (fun _ => 0))), (q76, .inl (cI, 5, .inl (fun _ => 0))), (q84, .inl (cI, 7, .inl (fun _ => 0))), (q91, .inl (cI, 19, .inl w17))] H := by rw [ew17]; exact hP
  have hD : va_D A [(a_this, .inr (8, [.int 0, .ref q8, .ref q17, .ref q26, .int 0, .ref q35, .int 0, .ref q43, .ref q51, .ref q60, .ref q69, .int 0, .int 0, .ref q76, .ref q84, .int 0, .int 0])), (q8, .inl (cI, 200, .inl (fun _ => 0))), (q17, .inl (cZ, 164, .inl (fun _ => 0))), (q26, .inl (cZ, 984, .inl (fun _ => 0))), (q35, .inl (cZ, 164, .inl (fun _ => 0))), (q43, .inl (cI, 41, .inl (fun _ => 0))), (q51, .inl (cI, 41, .inl (fun _ => 0))), (q60, .inl (cZ, 241, .inl (fun _ => 0))), (q69, .inl (cZ, 241, .inl (fun _ => 0))), (q76, .inl (cI, 5, .inl (fun _ => 0))), (q84, .inl (cI, 7, .inl (fun _ => 0))), (q91, .inl (cI, 19, .inl w17))] := by rw [ew17]; exact hD
  refine lv_dup hx hb dX8_init_187 rfl ?_
  refine lv_bipush (v := 17) hx hb dX8_init_188 (by decide) ?_
  refine lv_sipush (v := 143) hx hb dX8_init_190 (by decide) ?_
  refine va_iast hx hb hN.1 hP hD hS 11 0 rfl rfl (ix_in (by decide)) dX8_init_193 (fun H locs hP hD hS => ?_)
  obtain ⟨w18, ew18⟩ : ∃ z : Nat → Int32, z = (upd w17 17 143) := ⟨_, rfl⟩
  have hP : va_P D vwCl [(a_this, .inr (8, [.int 0, .ref q8, .ref q17, .ref q26, .int 0, .ref q35, .int 0, .ref q43, .ref q51, .ref q60, .ref q69, .int 0, .int 0, .ref q76, .ref q84, .int 0, .int 0])), (q8, .inl (cI, 200, .inl (fun _ => 0))), (q17, .inl (cZ, 164, .inl (fun _ => 0))), (q26, .inl (cZ, 984, .inl (fun _ => 0))), (q35, .inl (cZ, 164, .inl (fun _ => 0))), (q43, .inl (cI, 41, .inl (fun _ => 0))), (q51, .inl (cI, 41, .inl (fun _ => 0))), (q60, .inl (cZ, 241, .inl (fun _ => 0))), (q69, .inl (cZ, 241, .inl (fun _ => 0))), (q76, .inl (cI, 5, .inl (fun _ => 0))), (q84, .inl (cI, 7, .inl (fun _ => 0))), (q91, .inl (cI, 19, .inl w18))] H := by rw [ew18]; exact hP
  have hD : va_D A [(a_this, .inr (8, [.int 0, .ref q8, .ref q17, .ref q26, .int 0, .ref q35, .int 0, .ref q43, .ref q51, .ref q60, .ref q69, .int 0, .int 0, .ref q76, .ref q84, .int 0, .int 0])), (q8, .inl (cI, 200, .inl (fun _ => 0))), (q17, .inl (cZ, 164, .inl (fun _ => 0))), (q26, .inl (cZ, 984, .inl (fun _ => 0))), (q35, .inl (cZ, 164, .inl (fun _ => 0))), (q43, .inl (cI, 41, .inl (fun _ => 0))), (q51, .inl (cI, 41, .inl (fun _ => 0))), (q60, .inl (cZ, 241, .inl (fun _ => 0))), (q69, .inl (cZ, 241, .inl (fun _ => 0))), (q76, .inl (cI, 5, .inl (fun _ => 0))), (q84, .inl (cI, 7, .inl (fun _ => 0))), (q91, .inl (cI, 19, .inl w18))] := by rw [ew18]; exact hD
  refine lv_dup hx hb dX8_init_194 rfl ?_
  refine lv_bipush (v := 18) hx hb dX8_init_195 (by decide) ?_
  refine lv_sipush (v := 144) hx hb dX8_init_197 (by decide) ?_
  refine va_iast hx hb hN.1 hP hD hS 11 0 rfl rfl (ix_in (by decide)) dX8_init_200 (fun H locs hP hD hS => ?_)
  obtain ⟨w19, ew19⟩ : ∃ z : Nat → Int32, z = (upd w18 18 144) := ⟨_, rfl⟩
  have hP : va_P D vwCl [(a_this, .inr (8, [.int 0, .ref q8, .ref q17, .ref q26, .int 0, .ref q35, .int 0, .ref q43, .ref q51, .ref q60, .ref q69, .int 0, .int 0, .ref q76, .ref q84, .int 0, .int 0])), (q8, .inl (cI, 200, .inl (fun _ => 0))), (q17, .inl (cZ, 164, .inl (fun _ => 0))), (q26, .inl (cZ, 984, .inl (fun _ => 0))), (q35, .inl (cZ, 164, .inl (fun _ => 0))), (q43, .inl (cI, 41, .inl (fun _ => 0))), (q51, .inl (cI, 41, .inl (fun _ => 0))), (q60, .inl (cZ, 241, .inl (fun _ => 0))), (q69, .inl (cZ, 241, .inl (fun _ => 0))), (q76, .inl (cI, 5, .inl (fun _ => 0))), (q84, .inl (cI, 7, .inl (fun _ => 0))), (q91, .inl (cI, 19, .inl w19))] H := by rw [ew19]; exact hP
  have hD : va_D A [(a_this, .inr (8, [.int 0, .ref q8, .ref q17, .ref q26, .int 0, .ref q35, .int 0, .ref q43, .ref q51, .ref q60, .ref q69, .int 0, .int 0, .ref q76, .ref q84, .int 0, .int 0])), (q8, .inl (cI, 200, .inl (fun _ => 0))), (q17, .inl (cZ, 164, .inl (fun _ => 0))), (q26, .inl (cZ, 984, .inl (fun _ => 0))), (q35, .inl (cZ, 164, .inl (fun _ => 0))), (q43, .inl (cI, 41, .inl (fun _ => 0))), (q51, .inl (cI, 41, .inl (fun _ => 0))), (q60, .inl (cZ, 241, .inl (fun _ => 0))), (q69, .inl (cZ, 241, .inl (fun _ => 0))), (q76, .inl (cI, 5, .inl (fun _ => 0))), (q84, .inl (cI, 7, .inl (fun _ => 0))), (q91, .inl (cI, 19, .inl w19))] := by rw [ew19]; exact hD
  refine lv_astore_n (lv' := [(1, .ref q91), (0, .ref a_this)]) hx hb dX8_init_201 rfl hl (by decide) rfl (fun ls hl => ?_)
  have at_0 : w19 (Int32.toNatClampNeg 0) = 0 := by rw [ew19, ew18, ew17, ew16, ew15, ew14, ew13, ew12, ew11, ew10, ew9, ew8, ew7, ew6, ew5, ew4, ew3, ew2, ew1]; rfl
  have at_1 : w19 (Int32.toNatClampNeg 1) = 1 := by rw [ew19, ew18, ew17, ew16, ew15, ew14, ew13, ew12, ew11, ew10, ew9, ew8, ew7, ew6, ew5, ew4, ew3, ew2, ew1]; rfl
  have at_2 : w19 (Int32.toNatClampNeg 2) = 2 := by rw [ew19, ew18, ew17, ew16, ew15, ew14, ew13, ew12, ew11, ew10, ew9, ew8, ew7, ew6, ew5, ew4, ew3, ew2, ew1]; rfl
  have at_3 : w19 (Int32.toNatClampNeg 3) = 5 := by rw [ew19, ew18, ew17, ew16, ew15, ew14, ew13, ew12, ew11, ew10, ew9, ew8, ew7, ew6, ew5, ew4, ew3, ew2, ew1]; rfl
  have at_4 : w19 (Int32.toNatClampNeg 4) = 41 := by rw [ew19, ew18, ew17, ew16, ew15, ew14, ew13, ew12, ew11, ew10, ew9, ew8, ew7, ew6, ew5, ew4, ew3, ew2, ew1]; rfl
  have at_5 : w19 (Int32.toNatClampNeg 5) = 42 := by rw [ew19, ew18, ew17, ew16, ew15, ew14, ew13, ew12, ew11, ew10, ew9, ew8, ew7, ew6, ew5, ew4, ew3, ew2, ew1]; rfl
  have at_6 : w19 (Int32.toNatClampNeg 6) = 45 := by rw [ew19, ew18, ew17, ew16, ew15, ew14, ew13, ew12, ew11, ew10, ew9, ew8, ew7, ew6, ew5, ew4, ew3, ew2, ew1]; rfl
  have at_7 : w19 (Int32.toNatClampNeg 7) = 46 := by rw [ew19, ew18, ew17, ew16, ew15, ew14, ew13, ew12, ew11, ew10, ew9, ew8, ew7, ew6, ew5, ew4, ew3, ew2, ew1]; rfl
  have at_8 : w19 (Int32.toNatClampNeg 8) = 82 := by rw [ew19, ew18, ew17, ew16, ew15, ew14, ew13, ew12, ew11, ew10, ew9, ew8, ew7, ew6, ew5, ew4, ew3, ew2, ew1]; rfl
  have at_9 : w19 (Int32.toNatClampNeg 9) = 85 := by rw [ew19, ew18, ew17, ew16, ew15, ew14, ew13, ew12, ew11, ew10, ew9, ew8, ew7, ew6, ew5, ew4, ew3, ew2, ew1]; rfl
  have at_10 : w19 (Int32.toNatClampNeg 10) = 88 := by rw [ew19, ew18, ew17, ew16, ew15, ew14, ew13, ew12, ew11, ew10, ew9, ew8, ew7, ew6, ew5, ew4, ew3, ew2, ew1]; rfl
  have at_11 : w19 (Int32.toNatClampNeg 11) = 91 := by rw [ew19, ew18, ew17, ew16, ew15, ew14, ew13, ew12, ew11, ew10, ew9, ew8, ew7, ew6, ew5, ew4, ew3, ew2, ew1]; rfl
  have at_12 : w19 (Int32.toNatClampNeg 12) = 94 := by rw [ew19, ew18, ew17, ew16, ew15, ew14, ew13, ew12, ew11, ew10, ew9, ew8, ew7, ew6, ew5, ew4, ew3, ew2, ew1]; rfl
  have at_13 : w19 (Int32.toNatClampNeg 13) = 123 := by rw [ew19, ew18, ew17, ew16, ew15, ew14, ew13, ew12, ew11, ew10, ew9, ew8, ew7, ew6, ew5, ew4, ew3, ew2, ew1]; rfl
  have at_14 : w19 (Int32.toNatClampNeg 14) = 124 := by rw [ew19, ew18, ew17, ew16, ew15, ew14, ew13, ew12, ew11, ew10, ew9, ew8, ew7, ew6, ew5, ew4, ew3, ew2, ew1]; rfl
  have at_15 : w19 (Int32.toNatClampNeg 15) = 133 := by rw [ew19, ew18, ew17, ew16, ew15, ew14, ew13, ew12, ew11, ew10, ew9, ew8, ew7, ew6, ew5, ew4, ew3, ew2, ew1]; rfl
  have at_16 : w19 (Int32.toNatClampNeg 16) = 134 := by rw [ew19, ew18, ew17, ew16, ew15, ew14, ew13, ew12, ew11, ew10, ew9, ew8, ew7, ew6, ew5, ew4, ew3, ew2, ew1]; rfl
  have at_17 : w19 (Int32.toNatClampNeg 17) = 143 := by rw [ew19, ew18, ew17, ew16, ew15, ew14, ew13, ew12, ew11, ew10, ew9, ew8, ew7, ew6, ew5, ew4, ew3, ew2, ew1]; rfl
  have at_18 : w19 (Int32.toNatClampNeg 18) = 144 := by rw [ew19, ew18, ew17, ew16, ew15, ew14, ew13, ew12, ew11, ew10, ew9, ew8, ew7, ew6, ew5, ew4, ew3, ew2, ew1]; rfl
  refine lv_iconst (v := 0) hx hb dX8_init_202 (by decide) ?_
  refine lv_istore_n (lv' := [(2, .int 0), (1, .ref q91), (0, .ref a_this)]) hx hb dX8_init_203 rfl hl (by decide) rfl (fun ls hl => ?_)
  refine lv_iload_n hx hb dX8_init_204 rfl (lv_at hl 0 rfl) ?_
  refine lv_aload_n hx hb dX8_init_205 rfl (lv_at hl 1 rfl) ?_
  refine va_alen (v := 19) hx hb hN.1 hP 11 0 rfl rfl rfl dX8_init_206 ?_
  refine lv_icmp_ge (tgt := 225) hx hb dX8_init_207 (by decide) (fun c20 => ?_) (fun c20 => ?_)
  · exact absurd c20 (by decide)
  refine lv_aload_n hx hb dX8_init_210 rfl (lv_at hl 2 rfl) ?_
  refine va_get (D := D) (ci := 8) (v := .ref q17) (C := RX8) (T := TX8) (N := 17) hx hb hts z5 hown hN.1 hP 0 rfl rfl 2 (by decide) z8 (fun _ h9 => h9) rfl dX8_init_211 ?_
  refine lv_aload_n hx hb dX8_init_214 rfl (lv_at hl 1 rfl) ?_
  refine lv_iload_n hx hb dX8_init_215 rfl (lv_at hl 0 rfl) ?_
  refine va_iald hx hb hN.1 hP 11 0 rfl rfl (ix_in (by decide)) dX8_init_216 ?_
  refine lv_topi (fun y21 ey21 => ?_)
  have ey21 : y21 = 0 := ey21.trans at_0
  subst ey21
  refine lv_iconst (v := 1) hx hb dX8_init_217 (by decide) ?_
  refine va_zast hx hb hN.1 hP hD hS 2 3 rfl rfl (ix_in (by decide)) dX8_init_218 (fun H locs hP hD hS => ?_)
  obtain ⟨w22, ew22⟩ : ∃ z : Nat → Int32, z = upd (fun _ => 0) 0 1 := ⟨_, rfl⟩
  have hP : va_P D vwCl [(a_this, .inr (8, [.int 0, .ref q8, .ref q17, .ref q26, .int 0, .ref q35, .int 0, .ref q43, .ref q51, .ref q60, .ref q69, .int 0, .int 0, .ref q76, .ref q84, .int 0, .int 0])), (q8, .inl (cI, 200, .inl (fun _ => 0))), (q17, .inl (cZ, 164, .inl w22)), (q26, .inl (cZ, 984, .inl (fun _ => 0))), (q35, .inl (cZ, 164, .inl (fun _ => 0))), (q43, .inl (cI, 41, .inl (fun _ => 0))), (q51, .inl (cI, 41, .inl (fun _ => 0))), (q60, .inl (cZ, 241, .inl (fun _ => 0))), (q69, .inl (cZ, 241, .inl (fun _ => 0))), (q76, .inl (cI, 5, .inl (fun _ => 0))), (q84, .inl (cI, 7, .inl (fun _ => 0))), (q91, .inl (cI, 19, .inl w19))] H := by rw [ew22]; exact hP
  have hD : va_D A [(a_this, .inr (8, [.int 0, .ref q8, .ref q17, .ref q26, .int 0, .ref q35, .int 0, .ref q43, .ref q51, .ref q60, .ref q69, .int 0, .int 0, .ref q76, .ref q84, .int 0, .int 0])), (q8, .inl (cI, 200, .inl (fun _ => 0))), (q17, .inl (cZ, 164, .inl w22)), (q26, .inl (cZ, 984, .inl (fun _ => 0))), (q35, .inl (cZ, 164, .inl (fun _ => 0))), (q43, .inl (cI, 41, .inl (fun _ => 0))), (q51, .inl (cI, 41, .inl (fun _ => 0))), (q60, .inl (cZ, 241, .inl (fun _ => 0))), (q69, .inl (cZ, 241, .inl (fun _ => 0))), (q76, .inl (cI, 5, .inl (fun _ => 0))), (q84, .inl (cI, 7, .inl (fun _ => 0))), (q91, .inl (cI, 19, .inl w19))] := by rw [ew22]; exact hD
  refine lv_iinc (v := 1) (lv' := [(2, .int 1), (1, .ref q91), (0, .ref a_this)]) hx hb dX8_init_219 hl (k := 0) rfl (by decide) (by decide) rfl (fun ls hl => ?_)
  refine lv_goto (tgt := 204) hx hb dX8_init_222 (by decide) ?_
  refine lv_iload_n hx hb dX8_init_204 rfl (lv_at hl 0 rfl) ?_
  refine lv_aload_n hx hb dX8_init_205 rfl (lv_at hl 1 rfl) ?_
  refine va_alen (v := 19) hx hb hN.1 hP 11 0 rfl rfl rfl dX8_init_206 ?_
  refine lv_icmp_ge (tgt := 225) hx hb dX8_init_207 (by decide) (fun c23 => ?_) (fun c23 => ?_)
  · exact absurd c23 (by decide)
  refine lv_aload_n hx hb dX8_init_210 rfl (lv_at hl 2 rfl) ?_
  refine va_get (D := D) (ci := 8) (v := .ref q17) (C := RX8) (T := TX8) (N := 17) hx hb hts z5 hown hN.1 hP 0 rfl rfl 2 (by decide) z8 (fun _ h9 => h9) rfl dX8_init_211 ?_
  refine lv_aload_n hx hb dX8_init_214 rfl (lv_at hl 1 rfl) ?_
  refine lv_iload_n hx hb dX8_init_215 rfl (lv_at hl 0 rfl) ?_
  refine va_iald hx hb hN.1 hP 11 0 rfl rfl (ix_in (by decide)) dX8_init_216 ?_
  refine lv_topi (fun y24 ey24 => ?_)
  have ey24 : y24 = 1 := ey24.trans at_1
  subst ey24
  refine lv_iconst (v := 1) hx hb dX8_init_217 (by decide) ?_
  refine va_zast hx hb hN.1 hP hD hS 2 3 rfl rfl (ix_in (by decide)) dX8_init_218 (fun H locs hP hD hS => ?_)
  obtain ⟨w25, ew25⟩ : ∃ z : Nat → Int32, z = upd w22 1 1 := ⟨_, rfl⟩
  have hP : va_P D vwCl [(a_this, .inr (8, [.int 0, .ref q8, .ref q17, .ref q26, .int 0, .ref q35, .int 0, .ref q43, .ref q51, .ref q60, .ref q69, .int 0, .int 0, .ref q76, .ref q84, .int 0, .int 0])), (q8, .inl (cI, 200, .inl (fun _ => 0))), (q17, .inl (cZ, 164, .inl w25)), (q26, .inl (cZ, 984, .inl (fun _ => 0))), (q35, .inl (cZ, 164, .inl (fun _ => 0))), (q43, .inl (cI, 41, .inl (fun _ => 0))), (q51, .inl (cI, 41, .inl (fun _ => 0))), (q60, .inl (cZ, 241, .inl (fun _ => 0))), (q69, .inl (cZ, 241, .inl (fun _ => 0))), (q76, .inl (cI, 5, .inl (fun _ => 0))), (q84, .inl (cI, 7, .inl (fun _ => 0))), (q91, .inl (cI, 19, .inl w19))] H := by rw [ew25]; exact hP
  have hD : va_D A [(a_this, .inr (8, [.int 0, .ref q8, .ref q17, .ref q26, .int 0, .ref q35, .int 0, .ref q43, .ref q51, .ref q60, .ref q69, .int 0, .int 0, .ref q76, .ref q84, .int 0, .int 0])), (q8, .inl (cI, 200, .inl (fun _ => 0))), (q17, .inl (cZ, 164, .inl w25)), (q26, .inl (cZ, 984, .inl (fun _ => 0))), (q35, .inl (cZ, 164, .inl (fun _ => 0))), (q43, .inl (cI, 41, .inl (fun _ => 0))), (q51, .inl (cI, 41, .inl (fun _ => 0))), (q60, .inl (cZ, 241, .inl (fun _ => 0))), (q69, .inl (cZ, 241, .inl (fun _ => 0))), (q76, .inl (cI, 5, .inl (fun _ => 0))), (q84, .inl (cI, 7, .inl (fun _ => 0))), (q91, .inl (cI, 19, .inl w19))] := by rw [ew25]; exact hD
  refine lv_iinc (v := 2) (lv' := [(2, .int 2), (1, .ref q91), (0, .ref a_this)]) hx hb dX8_init_219 hl (k := 0) rfl (by decide) (by decide) rfl (fun ls hl => ?_)
  refine lv_goto (tgt := 204) hx hb dX8_init_222 (by decide) ?_
  refine lv_iload_n hx hb dX8_init_204 rfl (lv_at hl 0 rfl) ?_
  refine lv_aload_n hx hb dX8_init_205 rfl (lv_at hl 1 rfl) ?_
  refine va_alen (v := 19) hx hb hN.1 hP 11 0 rfl rfl rfl dX8_init_206 ?_
  refine lv_icmp_ge (tgt := 225) hx hb dX8_init_207 (by decide) (fun c26 => ?_) (fun c26 => ?_)
  · exact absurd c26 (by decide)
  refine lv_aload_n hx hb dX8_init_210 rfl (lv_at hl 2 rfl) ?_
  refine va_get (D := D) (ci := 8) (v := .ref q17) (C := RX8) (T := TX8) (N := 17) hx hb hts z5 hown hN.1 hP 0 rfl rfl 2 (by decide) z8 (fun _ h9 => h9) rfl dX8_init_211 ?_
  refine lv_aload_n hx hb dX8_init_214 rfl (lv_at hl 1 rfl) ?_
  refine lv_iload_n hx hb dX8_init_215 rfl (lv_at hl 0 rfl) ?_
  refine va_iald hx hb hN.1 hP 11 0 rfl rfl (ix_in (by decide)) dX8_init_216 ?_
  refine lv_topi (fun y27 ey27 => ?_)
  have ey27 : y27 = 2 := ey27.trans at_2
  subst ey27
  refine lv_iconst (v := 1) hx hb dX8_init_217 (by decide) ?_
  refine va_zast hx hb hN.1 hP hD hS 2 3 rfl rfl (ix_in (by decide)) dX8_init_218 (fun H locs hP hD hS => ?_)
  obtain ⟨w28, ew28⟩ : ∃ z : Nat → Int32, z = upd w25 2 1 := ⟨_, rfl⟩
  have hP : va_P D vwCl [(a_this, .inr (8, [.int 0, .ref q8, .ref q17, .ref q26, .int 0, .ref q35, .int 0, .ref q43, .ref q51, .ref q60, .ref q69, .int 0, .int 0, .ref q76, .ref q84, .int 0, .int 0])), (q8, .inl (cI, 200, .inl (fun _ => 0))), (q17, .inl (cZ, 164, .inl w28)), (q26, .inl (cZ, 984, .inl (fun _ => 0))), (q35, .inl (cZ, 164, .inl (fun _ => 0))), (q43, .inl (cI, 41, .inl (fun _ => 0))), (q51, .inl (cI, 41, .inl (fun _ => 0))), (q60, .inl (cZ, 241, .inl (fun _ => 0))), (q69, .inl (cZ, 241, .inl (fun _ => 0))), (q76, .inl (cI, 5, .inl (fun _ => 0))), (q84, .inl (cI, 7, .inl (fun _ => 0))), (q91, .inl (cI, 19, .inl w19))] H := by rw [ew28]; exact hP
  have hD : va_D A [(a_this, .inr (8, [.int 0, .ref q8, .ref q17, .ref q26, .int 0, .ref q35, .int 0, .ref q43, .ref q51, .ref q60, .ref q69, .int 0, .int 0, .ref q76, .ref q84, .int 0, .int 0])), (q8, .inl (cI, 200, .inl (fun _ => 0))), (q17, .inl (cZ, 164, .inl w28)), (q26, .inl (cZ, 984, .inl (fun _ => 0))), (q35, .inl (cZ, 164, .inl (fun _ => 0))), (q43, .inl (cI, 41, .inl (fun _ => 0))), (q51, .inl (cI, 41, .inl (fun _ => 0))), (q60, .inl (cZ, 241, .inl (fun _ => 0))), (q69, .inl (cZ, 241, .inl (fun _ => 0))), (q76, .inl (cI, 5, .inl (fun _ => 0))), (q84, .inl (cI, 7, .inl (fun _ => 0))), (q91, .inl (cI, 19, .inl w19))] := by rw [ew28]; exact hD
  refine lv_iinc (v := 3) (lv' := [(2, .int 3), (1, .ref q91), (0, .ref a_this)]) hx hb dX8_init_219 hl (k := 0) rfl (by decide) (by decide) rfl (fun ls hl => ?_)
  refine lv_goto (tgt := 204) hx hb dX8_init_222 (by decide) ?_
  refine lv_iload_n hx hb dX8_init_204 rfl (lv_at hl 0 rfl) ?_
  refine lv_aload_n hx hb dX8_init_205 rfl (lv_at hl 1 rfl) ?_
  refine va_alen (v := 19) hx hb hN.1 hP 11 0 rfl rfl rfl dX8_init_206 ?_
  refine lv_icmp_ge (tgt := 225) hx hb dX8_init_207 (by decide) (fun c29 => ?_) (fun c29 => ?_)
  · exact absurd c29 (by decide)
  refine lv_aload_n hx hb dX8_init_210 rfl (lv_at hl 2 rfl) ?_
  refine va_get (D := D) (ci := 8) (v := .ref q17) (C := RX8) (T := TX8) (N := 17) hx hb hts z5 hown hN.1 hP 0 rfl rfl 2 (by decide) z8 (fun _ h9 => h9) rfl dX8_init_211 ?_
  refine lv_aload_n hx hb dX8_init_214 rfl (lv_at hl 1 rfl) ?_
  refine lv_iload_n hx hb dX8_init_215 rfl (lv_at hl 0 rfl) ?_
  refine va_iald hx hb hN.1 hP 11 0 rfl rfl (ix_in (by decide)) dX8_init_216 ?_
  refine lv_topi (fun y30 ey30 => ?_)
  have ey30 : y30 = 5 := ey30.trans at_3
  subst ey30
  refine lv_iconst (v := 1) hx hb dX8_init_217 (by decide) ?_
  refine va_zast hx hb hN.1 hP hD hS 2 3 rfl rfl (ix_in (by decide)) dX8_init_218 (fun H locs hP hD hS => ?_)
  obtain ⟨w31, ew31⟩ : ∃ z : Nat → Int32, z = upd w28 5 1 := ⟨_, rfl⟩
  have hP : va_P D vwCl [(a_this, .inr (8, [.int 0, .ref q8, .ref q17, .ref q26, .int 0, .ref q35, .int 0, .ref q43, .ref q51, .ref q60, .ref q69, .int 0, .int 0, .ref q76, .ref q84, .int 0, .int 0])), (q8, .inl (cI, 200, .inl (fun _ => 0))), (q17, .inl (cZ, 164, .inl w31)), (q26, .inl (cZ, 984, .inl (fun _ => 0))), (q35, .inl (cZ, 164, .inl (fun _ => 0))), (q43, .inl (cI, 41, .inl (fun _ => 0))), (q51, .inl (cI, 41, .inl (fun _ => 0))), (q60, .inl (cZ, 241, .inl (fun _ => 0))), (q69, .inl (cZ, 241, .inl (fun _ => 0))), (q76, .inl (cI, 5, .inl (fun _ => 0))), (q84, .inl (cI, 7, .inl (fun _ => 0))), (q91, .inl (cI, 19, .inl w19))] H := by rw [ew31]; exact hP
  have hD : va_D A [(a_this, .inr (8, [.int 0, .ref q8, .ref q17, .ref q26, .int 0, .ref q35, .int 0, .ref q43, .ref q51, .ref q60, .ref q69, .int 0, .int 0, .ref q76, .ref q84, .int 0, .int 0])), (q8, .inl (cI, 200, .inl (fun _ => 0))), (q17, .inl (cZ, 164, .inl w31)), (q26, .inl (cZ, 984, .inl (fun _ => 0))), (q35, .inl (cZ, 164, .inl (fun _ => 0))), (q43, .inl (cI, 41, .inl (fun _ => 0))), (q51, .inl (cI, 41, .inl (fun _ => 0))), (q60, .inl (cZ, 241, .inl (fun _ => 0))), (q69, .inl (cZ, 241, .inl (fun _ => 0))), (q76, .inl (cI, 5, .inl (fun _ => 0))), (q84, .inl (cI, 7, .inl (fun _ => 0))), (q91, .inl (cI, 19, .inl w19))] := by rw [ew31]; exact hD
  refine lv_iinc (v := 4) (lv' := [(2, .int 4), (1, .ref q91), (0, .ref a_this)]) hx hb dX8_init_219 hl (k := 0) rfl (by decide) (by decide) rfl (fun ls hl => ?_)
  refine lv_goto (tgt := 204) hx hb dX8_init_222 (by decide) ?_
  refine lv_iload_n hx hb dX8_init_204 rfl (lv_at hl 0 rfl) ?_
  refine lv_aload_n hx hb dX8_init_205 rfl (lv_at hl 1 rfl) ?_
  refine va_alen (v := 19) hx hb hN.1 hP 11 0 rfl rfl rfl dX8_init_206 ?_
  refine lv_icmp_ge (tgt := 225) hx hb dX8_init_207 (by decide) (fun c32 => ?_) (fun c32 => ?_)
  · exact absurd c32 (by decide)
  refine lv_aload_n hx hb dX8_init_210 rfl (lv_at hl 2 rfl) ?_
  refine va_get (D := D) (ci := 8) (v := .ref q17) (C := RX8) (T := TX8) (N := 17) hx hb hts z5 hown hN.1 hP 0 rfl rfl 2 (by decide) z8 (fun _ h9 => h9) rfl dX8_init_211 ?_
  refine lv_aload_n hx hb dX8_init_214 rfl (lv_at hl 1 rfl) ?_
  refine lv_iload_n hx hb dX8_init_215 rfl (lv_at hl 0 rfl) ?_
  refine va_iald hx hb hN.1 hP 11 0 rfl rfl (ix_in (by decide)) dX8_init_216 ?_
  refine lv_topi (fun y33 ey33 => ?_)
  have ey33 : y33 = 41 := ey33.trans at_4
  subst ey33
  refine lv_iconst (v := 1) hx hb dX8_init_217 (by decide) ?_
  refine va_zast hx hb hN.1 hP hD hS 2 3 rfl rfl (ix_in (by decide)) dX8_init_218 (fun H locs hP hD hS => ?_)
  obtain ⟨w34, ew34⟩ : ∃ z : Nat → Int32, z = upd w31 41 1 := ⟨_, rfl⟩
  have hP : va_P D vwCl [(a_this, .inr (8, [.int 0, .ref q8, .ref q17, .ref q26, .int 0, .ref q35, .int 0, .ref q43, .ref q51, .ref q60, .ref q69, .int 0, .int 0, .ref q76, .ref q84, .int 0, .int 0])), (q8, .inl (cI, 200, .inl (fun _ => 0))), (q17, .inl (cZ, 164, .inl w34)), (q26, .inl (cZ, 984, .inl (fun _ => 0))), (q35, .inl (cZ, 164, .inl (fun _ => 0))), (q43, .inl (cI, 41, .inl (fun _ => 0))), (q51, .inl (cI, 41, .inl (fun _ => 0))), (q60, .inl (cZ, 241, .inl (fun _ => 0))), (q69, .inl (cZ, 241, .inl (fun _ => 0))), (q76, .inl (cI, 5, .inl (fun _ => 0))), (q84, .inl (cI, 7, .inl (fun _ => 0))), (q91, .inl (cI, 19, .inl w19))] H := by rw [ew34]; exact hP
  have hD : va_D A [(a_this, .inr (8, [.int 0, .ref q8, .ref q17, .ref q26, .int 0, .ref q35, .int 0, .ref q43, .ref q51, .ref q60, .ref q69, .int 0, .int 0, .ref q76, .ref q84, .int 0, .int 0])), (q8, .inl (cI, 200, .inl (fun _ => 0))), (q17, .inl (cZ, 164, .inl w34)), (q26, .inl (cZ, 984, .inl (fun _ => 0))), (q35, .inl (cZ, 164, .inl (fun _ => 0))), (q43, .inl (cI, 41, .inl (fun _ => 0))), (q51, .inl (cI, 41, .inl (fun _ => 0))), (q60, .inl (cZ, 241, .inl (fun _ => 0))), (q69, .inl (cZ, 241, .inl (fun _ => 0))), (q76, .inl (cI, 5, .inl (fun _ => 0))), (q84, .inl (cI, 7, .inl (fun _ => 0))), (q91, .inl (cI, 19, .inl w19))] := by rw [ew34]; exact hD
  refine lv_iinc (v := 5) (lv' := [(2, .int 5), (1, .ref q91), (0, .ref a_this)]) hx hb dX8_init_219 hl (k := 0) rfl (by decide) (by decide) rfl (fun ls hl => ?_)
  refine lv_goto (tgt := 204) hx hb dX8_init_222 (by decide) ?_
  refine lv_iload_n hx hb dX8_init_204 rfl (lv_at hl 0 rfl) ?_
  refine lv_aload_n hx hb dX8_init_205 rfl (lv_at hl 1 rfl) ?_
  refine va_alen (v := 19) hx hb hN.1 hP 11 0 rfl rfl rfl dX8_init_206 ?_
  refine lv_icmp_ge (tgt := 225) hx hb dX8_init_207 (by decide) (fun c35 => ?_) (fun c35 => ?_)
  · exact absurd c35 (by decide)
  refine lv_aload_n hx hb dX8_init_210 rfl (lv_at hl 2 rfl) ?_
  refine va_get (D := D) (ci := 8) (v := .ref q17) (C := RX8) (T := TX8) (N := 17) hx hb hts z5 hown hN.1 hP 0 rfl rfl 2 (by decide) z8 (fun _ h9 => h9) rfl dX8_init_211 ?_
  refine lv_aload_n hx hb dX8_init_214 rfl (lv_at hl 1 rfl) ?_
  refine lv_iload_n hx hb dX8_init_215 rfl (lv_at hl 0 rfl) ?_
  refine va_iald hx hb hN.1 hP 11 0 rfl rfl (ix_in (by decide)) dX8_init_216 ?_
  refine lv_topi (fun y36 ey36 => ?_)
  have ey36 : y36 = 42 := ey36.trans at_5
  subst ey36
  refine lv_iconst (v := 1) hx hb dX8_init_217 (by decide) ?_
  refine va_zast hx hb hN.1 hP hD hS 2 3 rfl rfl (ix_in (by decide)) dX8_init_218 (fun H locs hP hD hS => ?_)
  obtain ⟨w37, ew37⟩ : ∃ z : Nat → Int32, z = upd w34 42 1 := ⟨_, rfl⟩
  have hP : va_P D vwCl [(a_this, .inr (8, [.int 0, .ref q8, .ref q17, .ref q26, .int 0, .ref q35, .int 0, .ref q43, .ref q51, .ref q60, .ref q69, .int 0, .int 0, .ref q76, .ref q84, .int 0, .int 0])), (q8, .inl (cI, 200, .inl (fun _ => 0))), (q17, .inl (cZ, 164, .inl w37)), (q26, .inl (cZ, 984, .inl (fun _ => 0))), (q35, .inl (cZ, 164, .inl (fun _ => 0))), (q43, .inl (cI, 41, .inl (fun _ => 0))), (q51, .inl (cI, 41, .inl (fun _ => 0))), (q60, .inl (cZ, 241, .inl (fun _ => 0))), (q69, .inl (cZ, 241, .inl (fun _ => 0))), (q76, .inl (cI, 5, .inl (fun _ => 0))), (q84, .inl (cI, 7, .inl (fun _ => 0))), (q91, .inl (cI, 19, .inl w19))] H := by rw [ew37]; exact hP
  have hD : va_D A [(a_this, .inr (8, [.int 0, .ref q8, .ref q17, .ref q26, .int 0, .ref q35, .int 0, .ref q43, .ref q51, .ref q60, .ref q69, .int 0, .int 0, .ref q76, .ref q84, .int 0, .int 0])), (q8, .inl (cI, 200, .inl (fun _ => 0))), (q17, .inl (cZ, 164, .inl w37)), (q26, .inl (cZ, 984, .inl (fun _ => 0))), (q35, .inl (cZ, 164, .inl (fun _ => 0))), (q43, .inl (cI, 41, .inl (fun _ => 0))), (q51, .inl (cI, 41, .inl (fun _ => 0))), (q60, .inl (cZ, 241, .inl (fun _ => 0))), (q69, .inl (cZ, 241, .inl (fun _ => 0))), (q76, .inl (cI, 5, .inl (fun _ => 0))), (q84, .inl (cI, 7, .inl (fun _ => 0))), (q91, .inl (cI, 19, .inl w19))] := by rw [ew37]; exact hD
  refine lv_iinc (v := 6) (lv' := [(2, .int 6), (1, .ref q91), (0, .ref a_this)]) hx hb dX8_init_219 hl (k := 0) rfl (by decide) (by decide) rfl (fun ls hl => ?_)
  refine lv_goto (tgt := 204) hx hb dX8_init_222 (by decide) ?_
  refine lv_iload_n hx hb dX8_init_204 rfl (lv_at hl 0 rfl) ?_
  refine lv_aload_n hx hb dX8_init_205 rfl (lv_at hl 1 rfl) ?_
  refine va_alen (v := 19) hx hb hN.1 hP 11 0 rfl rfl rfl dX8_init_206 ?_
  refine lv_icmp_ge (tgt := 225) hx hb dX8_init_207 (by decide) (fun c38 => ?_) (fun c38 => ?_)
  · exact absurd c38 (by decide)
  refine lv_aload_n hx hb dX8_init_210 rfl (lv_at hl 2 rfl) ?_
  refine va_get (D := D) (ci := 8) (v := .ref q17) (C := RX8) (T := TX8) (N := 17) hx hb hts z5 hown hN.1 hP 0 rfl rfl 2 (by decide) z8 (fun _ h9 => h9) rfl dX8_init_211 ?_
  refine lv_aload_n hx hb dX8_init_214 rfl (lv_at hl 1 rfl) ?_
  refine lv_iload_n hx hb dX8_init_215 rfl (lv_at hl 0 rfl) ?_
  refine va_iald hx hb hN.1 hP 11 0 rfl rfl (ix_in (by decide)) dX8_init_216 ?_
  refine lv_topi (fun y39 ey39 => ?_)
  have ey39 : y39 = 45 := ey39.trans at_6
  subst ey39
  refine lv_iconst (v := 1) hx hb dX8_init_217 (by decide) ?_
  refine va_zast hx hb hN.1 hP hD hS 2 3 rfl rfl (ix_in (by decide)) dX8_init_218 (fun H locs hP hD hS => ?_)
  obtain ⟨w40, ew40⟩ : ∃ z : Nat → Int32, z = upd w37 45 1 := ⟨_, rfl⟩
  have hP : va_P D vwCl [(a_this, .inr (8, [.int 0, .ref q8, .ref q17, .ref q26, .int 0, .ref q35, .int 0, .ref q43, .ref q51, .ref q60, .ref q69, .int 0, .int 0, .ref q76, .ref q84, .int 0, .int 0])), (q8, .inl (cI, 200, .inl (fun _ => 0))), (q17, .inl (cZ, 164, .inl w40)), (q26, .inl (cZ, 984, .inl (fun _ => 0))), (q35, .inl (cZ, 164, .inl (fun _ => 0))), (q43, .inl (cI, 41, .inl (fun _ => 0))), (q51, .inl (cI, 41, .inl (fun _ => 0))), (q60, .inl (cZ, 241, .inl (fun _ => 0))), (q69, .inl (cZ, 241, .inl (fun _ => 0))), (q76, .inl (cI, 5, .inl (fun _ => 0))), (q84, .inl (cI, 7, .inl (fun _ => 0))), (q91, .inl (cI, 19, .inl w19))] H := by rw [ew40]; exact hP
  have hD : va_D A [(a_this, .inr (8, [.int 0, .ref q8, .ref q17, .ref q26, .int 0, .ref q35, .int 0, .ref q43, .ref q51, .ref q60, .ref q69, .int 0, .int 0, .ref q76, .ref q84, .int 0, .int 0])), (q8, .inl (cI, 200, .inl (fun _ => 0))), (q17, .inl (cZ, 164, .inl w40)), (q26, .inl (cZ, 984, .inl (fun _ => 0))), (q35, .inl (cZ, 164, .inl (fun _ => 0))), (q43, .inl (cI, 41, .inl (fun _ => 0))), (q51, .inl (cI, 41, .inl (fun _ => 0))), (q60, .inl (cZ, 241, .inl (fun _ => 0))), (q69, .inl (cZ, 241, .inl (fun _ => 0))), (q76, .inl (cI, 5, .inl (fun _ => 0))), (q84, .inl (cI, 7, .inl (fun _ => 0))), (q91, .inl (cI, 19, .inl w19))] := by rw [ew40]; exact hD
  refine lv_iinc (v := 7) (lv' := [(2, .int 7), (1, .ref q91), (0, .ref a_this)]) hx hb dX8_init_219 hl (k := 0) rfl (by decide) (by decide) rfl (fun ls hl => ?_)
  refine lv_goto (tgt := 204) hx hb dX8_init_222 (by decide) ?_
  refine lv_iload_n hx hb dX8_init_204 rfl (lv_at hl 0 rfl) ?_
  refine lv_aload_n hx hb dX8_init_205 rfl (lv_at hl 1 rfl) ?_
  refine va_alen (v := 19) hx hb hN.1 hP 11 0 rfl rfl rfl dX8_init_206 ?_
  refine lv_icmp_ge (tgt := 225) hx hb dX8_init_207 (by decide) (fun c41 => ?_) (fun c41 => ?_)
  · exact absurd c41 (by decide)
  refine lv_aload_n hx hb dX8_init_210 rfl (lv_at hl 2 rfl) ?_
  refine va_get (D := D) (ci := 8) (v := .ref q17) (C := RX8) (T := TX8) (N := 17) hx hb hts z5 hown hN.1 hP 0 rfl rfl 2 (by decide) z8 (fun _ h9 => h9) rfl dX8_init_211 ?_
  refine lv_aload_n hx hb dX8_init_214 rfl (lv_at hl 1 rfl) ?_
  refine lv_iload_n hx hb dX8_init_215 rfl (lv_at hl 0 rfl) ?_
  refine va_iald hx hb hN.1 hP 11 0 rfl rfl (ix_in (by decide)) dX8_init_216 ?_
  refine lv_topi (fun y42 ey42 => ?_)
  have ey42 : y42 = 46 := ey42.trans at_7
  subst ey42
  refine lv_iconst (v := 1) hx hb dX8_init_217 (by decide) ?_
  refine va_zast hx hb hN.1 hP hD hS 2 3 rfl rfl (ix_in (by decide)) dX8_init_218 (fun H locs hP hD hS => ?_)
  obtain ⟨w43, ew43⟩ : ∃ z : Nat → Int32, z = upd w40 46 1 := ⟨_, rfl⟩
  have hP : va_P D vwCl [(a_this, .inr (8, [.int 0, .ref q8, .ref q17, .ref q26, .int 0, .ref q35, .int 0, .ref q43, .ref q51, .ref q60, .ref q69, .int 0, .int 0, .ref q76, .ref q84, .int 0, .int 0])), (q8, .inl (cI, 200, .inl (fun _ => 0))), (q17, .inl (cZ, 164, .inl w43)), (q26, .inl (cZ, 984, .inl (fun _ => 0))), (q35, .inl (cZ, 164, .inl (fun _ => 0))), (q43, .inl (cI, 41, .inl (fun _ => 0))), (q51, .inl (cI, 41, .inl (fun _ => 0))), (q60, .inl (cZ, 241, .inl (fun _ => 0))), (q69, .inl (cZ, 241, .inl (fun _ => 0))), (q76, .inl (cI, 5, .inl (fun _ => 0))), (q84, .inl (cI, 7, .inl (fun _ => 0))), (q91, .inl (cI, 19, .inl w19))] H := by rw [ew43]; exact hP
  have hD : va_D A [(a_this, .inr (8, [.int 0, .ref q8, .ref q17, .ref q26, .int 0, .ref q35, .int 0, .ref q43, .ref q51, .ref q60, .ref q69, .int 0, .int 0, .ref q76, .ref q84, .int 0, .int 0])), (q8, .inl (cI, 200, .inl (fun _ => 0))), (q17, .inl (cZ, 164, .inl w43)), (q26, .inl (cZ, 984, .inl (fun _ => 0))), (q35, .inl (cZ, 164, .inl (fun _ => 0))), (q43, .inl (cI, 41, .inl (fun _ => 0))), (q51, .inl (cI, 41, .inl (fun _ => 0))), (q60, .inl (cZ, 241, .inl (fun _ => 0))), (q69, .inl (cZ, 241, .inl (fun _ => 0))), (q76, .inl (cI, 5, .inl (fun _ => 0))), (q84, .inl (cI, 7, .inl (fun _ => 0))), (q91, .inl (cI, 19, .inl w19))] := by rw [ew43]; exact hD
  refine lv_iinc (v := 8) (lv' := [(2, .int 8), (1, .ref q91), (0, .ref a_this)]) hx hb dX8_init_219 hl (k := 0) rfl (by decide) (by decide) rfl (fun ls hl => ?_)
  refine lv_goto (tgt := 204) hx hb dX8_init_222 (by decide) ?_
  refine lv_iload_n hx hb dX8_init_204 rfl (lv_at hl 0 rfl) ?_
  refine lv_aload_n hx hb dX8_init_205 rfl (lv_at hl 1 rfl) ?_
  refine va_alen (v := 19) hx hb hN.1 hP 11 0 rfl rfl rfl dX8_init_206 ?_
  refine lv_icmp_ge (tgt := 225) hx hb dX8_init_207 (by decide) (fun c44 => ?_) (fun c44 => ?_)
  · exact absurd c44 (by decide)
  refine lv_aload_n hx hb dX8_init_210 rfl (lv_at hl 2 rfl) ?_
  refine va_get (D := D) (ci := 8) (v := .ref q17) (C := RX8) (T := TX8) (N := 17) hx hb hts z5 hown hN.1 hP 0 rfl rfl 2 (by decide) z8 (fun _ h9 => h9) rfl dX8_init_211 ?_
  refine lv_aload_n hx hb dX8_init_214 rfl (lv_at hl 1 rfl) ?_
  refine lv_iload_n hx hb dX8_init_215 rfl (lv_at hl 0 rfl) ?_
  refine va_iald hx hb hN.1 hP 11 0 rfl rfl (ix_in (by decide)) dX8_init_216 ?_
  refine lv_topi (fun y45 ey45 => ?_)
  have ey45 : y45 = 82 := ey45.trans at_8
  subst ey45
  refine lv_iconst (v := 1) hx hb dX8_init_217 (by decide) ?_
  refine va_zast hx hb hN.1 hP hD hS 2 3 rfl rfl (ix_in (by decide)) dX8_init_218 (fun H locs hP hD hS => ?_)
  obtain ⟨w46, ew46⟩ : ∃ z : Nat → Int32, z = upd w43 82 1 := ⟨_, rfl⟩
  have hP : va_P D vwCl [(a_this, .inr (8, [.int 0, .ref q8, .ref q17, .ref q26, .int 0, .ref q35, .int 0, .ref q43, .ref q51, .ref q60, .ref q69, .int 0, .int 0, .ref q76, .ref q84, .int 0, .int 0])), (q8, .inl (cI, 200, .inl (fun _ => 0))), (q17, .inl (cZ, 164, .inl w46)), (q26, .inl (cZ, 984, .inl (fun _ => 0))), (q35, .inl (cZ, 164, .inl (fun _ => 0))), (q43, .inl (cI, 41, .inl (fun _ => 0))), (q51, .inl (cI, 41, .inl (fun _ => 0))), (q60, .inl (cZ, 241, .inl (fun _ => 0))), (q69, .inl (cZ, 241, .inl (fun _ => 0))), (q76, .inl (cI, 5, .inl (fun _ => 0))), (q84, .inl (cI, 7, .inl (fun _ => 0))), (q91, .inl (cI, 19, .inl w19))] H := by rw [ew46]; exact hP
  have hD : va_D A [(a_this, .inr (8, [.int 0, .ref q8, .ref q17, .ref q26, .int 0, .ref q35, .int 0, .ref q43, .ref q51, .ref q60, .ref q69, .int 0, .int 0, .ref q76, .ref q84, .int 0, .int 0])), (q8, .inl (cI, 200, .inl (fun _ => 0))), (q17, .inl (cZ, 164, .inl w46)), (q26, .inl (cZ, 984, .inl (fun _ => 0))), (q35, .inl (cZ, 164, .inl (fun _ => 0))), (q43, .inl (cI, 41, .inl (fun _ => 0))), (q51, .inl (cI, 41, .inl (fun _ => 0))), (q60, .inl (cZ, 241, .inl (fun _ => 0))), (q69, .inl (cZ, 241, .inl (fun _ => 0))), (q76, .inl (cI, 5, .inl (fun _ => 0))), (q84, .inl (cI, 7, .inl (fun _ => 0))), (q91, .inl (cI, 19, .inl w19))] := by rw [ew46]; exact hD
  refine lv_iinc (v := 9) (lv' := [(2, .int 9), (1, .ref q91), (0, .ref a_this)]) hx hb dX8_init_219 hl (k := 0) rfl (by decide) (by decide) rfl (fun ls hl => ?_)
  refine lv_goto (tgt := 204) hx hb dX8_init_222 (by decide) ?_
  refine lv_iload_n hx hb dX8_init_204 rfl (lv_at hl 0 rfl) ?_
  refine lv_aload_n hx hb dX8_init_205 rfl (lv_at hl 1 rfl) ?_
  refine va_alen (v := 19) hx hb hN.1 hP 11 0 rfl rfl rfl dX8_init_206 ?_
  refine lv_icmp_ge (tgt := 225) hx hb dX8_init_207 (by decide) (fun c47 => ?_) (fun c47 => ?_)
  · exact absurd c47 (by decide)
  refine lv_aload_n hx hb dX8_init_210 rfl (lv_at hl 2 rfl) ?_
  refine va_get (D := D) (ci := 8) (v := .ref q17) (C := RX8) (T := TX8) (N := 17) hx hb hts z5 hown hN.1 hP 0 rfl rfl 2 (by decide) z8 (fun _ h9 => h9) rfl dX8_init_211 ?_
  refine lv_aload_n hx hb dX8_init_214 rfl (lv_at hl 1 rfl) ?_
  refine lv_iload_n hx hb dX8_init_215 rfl (lv_at hl 0 rfl) ?_
  refine va_iald hx hb hN.1 hP 11 0 rfl rfl (ix_in (by decide)) dX8_init_216 ?_
  refine lv_topi (fun y48 ey48 => ?_)
  have ey48 : y48 = 85 := ey48.trans at_9
  subst ey48
  refine lv_iconst (v := 1) hx hb dX8_init_217 (by decide) ?_
  refine va_zast hx hb hN.1 hP hD hS 2 3 rfl rfl (ix_in (by decide)) dX8_init_218 (fun H locs hP hD hS => ?_)
  obtain ⟨w49, ew49⟩ : ∃ z : Nat → Int32, z = upd w46 85 1 := ⟨_, rfl⟩
  have hP : va_P D vwCl [(a_this, .inr (8, [.int 0, .ref q8, .ref q17, .ref q26, .int 0, .ref q35, .int 0, .ref q43, .ref q51, .ref q60, .ref q69, .int 0, .int 0, .ref q76, .ref q84, .int 0, .int 0])), (q8, .inl (cI, 200, .inl (fun _ => 0))), (q17, .inl (cZ, 164, .inl w49)), (q26, .inl (cZ, 984, .inl (fun _ => 0))), (q35, .inl (cZ, 164, .inl (fun _ => 0))), (q43, .inl (cI, 41, .inl (fun _ => 0))), (q51, .inl (cI, 41, .inl (fun _ => 0))), (q60, .inl (cZ, 241, .inl (fun _ => 0))), (q69, .inl (cZ, 241, .inl (fun _ => 0))), (q76, .inl (cI, 5, .inl (fun _ => 0))), (q84, .inl (cI, 7, .inl (fun _ => 0))), (q91, .inl (cI, 19, .inl w19))] H := by rw [ew49]; exact hP
  have hD : va_D A [(a_this, .inr (8, [.int 0, .ref q8, .ref q17, .ref q26, .int 0, .ref q35, .int 0, .ref q43, .ref q51, .ref q60, .ref q69, .int 0, .int 0, .ref q76, .ref q84, .int 0, .int 0])), (q8, .inl (cI, 200, .inl (fun _ => 0))), (q17, .inl (cZ, 164, .inl w49)), (q26, .inl (cZ, 984, .inl (fun _ => 0))), (q35, .inl (cZ, 164, .inl (fun _ => 0))), (q43, .inl (cI, 41, .inl (fun _ => 0))), (q51, .inl (cI, 41, .inl (fun _ => 0))), (q60, .inl (cZ, 241, .inl (fun _ => 0))), (q69, .inl (cZ, 241, .inl (fun _ => 0))), (q76, .inl (cI, 5, .inl (fun _ => 0))), (q84, .inl (cI, 7, .inl (fun _ => 0))), (q91, .inl (cI, 19, .inl w19))] := by rw [ew49]; exact hD
  refine lv_iinc (v := 10) (lv' := [(2, .int 10), (1, .ref q91), (0, .ref a_this)]) hx hb dX8_init_219 hl (k := 0) rfl (by decide) (by decide) rfl (fun ls hl => ?_)
  refine lv_goto (tgt := 204) hx hb dX8_init_222 (by decide) ?_
  refine lv_iload_n hx hb dX8_init_204 rfl (lv_at hl 0 rfl) ?_
  refine lv_aload_n hx hb dX8_init_205 rfl (lv_at hl 1 rfl) ?_
  refine va_alen (v := 19) hx hb hN.1 hP 11 0 rfl rfl rfl dX8_init_206 ?_
  refine lv_icmp_ge (tgt := 225) hx hb dX8_init_207 (by decide) (fun c50 => ?_) (fun c50 => ?_)
  · exact absurd c50 (by decide)
  refine lv_aload_n hx hb dX8_init_210 rfl (lv_at hl 2 rfl) ?_
  refine va_get (D := D) (ci := 8) (v := .ref q17) (C := RX8) (T := TX8) (N := 17) hx hb hts z5 hown hN.1 hP 0 rfl rfl 2 (by decide) z8 (fun _ h9 => h9) rfl dX8_init_211 ?_
  refine lv_aload_n hx hb dX8_init_214 rfl (lv_at hl 1 rfl) ?_
  refine lv_iload_n hx hb dX8_init_215 rfl (lv_at hl 0 rfl) ?_
  refine va_iald hx hb hN.1 hP 11 0 rfl rfl (ix_in (by decide)) dX8_init_216 ?_
  refine lv_topi (fun y51 ey51 => ?_)
  have ey51 : y51 = 88 := ey51.trans at_10
  subst ey51
  refine lv_iconst (v := 1) hx hb dX8_init_217 (by decide) ?_
  refine va_zast hx hb hN.1 hP hD hS 2 3 rfl rfl (ix_in (by decide)) dX8_init_218 (fun H locs hP hD hS => ?_)
  obtain ⟨w52, ew52⟩ : ∃ z : Nat → Int32, z = upd w49 88 1 := ⟨_, rfl⟩
  have hP : va_P D vwCl [(a_this, .inr (8, [.int 0, .ref q8, .ref q17, .ref q26, .int 0, .ref q35, .int 0, .ref q43, .ref q51, .ref q60, .ref q69, .int 0, .int 0, .ref q76, .ref q84, .int 0, .int 0])), (q8, .inl (cI, 200, .inl (fun _ => 0))), (q17, .inl (cZ, 164, .inl w52)), (q26, .inl (cZ, 984, .inl (fun _ => 0))), (q35, .inl (cZ, 164, .inl (fun _ => 0))), (q43, .inl (cI, 41, .inl (fun _ => 0))), (q51, .inl (cI, 41, .inl (fun _ => 0))), (q60, .inl (cZ, 241, .inl (fun _ => 0))), (q69, .inl (cZ, 241, .inl (fun _ => 0))), (q76, .inl (cI, 5, .inl (fun _ => 0))), (q84, .inl (cI, 7, .inl (fun _ => 0))), (q91, .inl (cI, 19, .inl w19))] H := by rw [ew52]; exact hP
  have hD : va_D A [(a_this, .inr (8, [.int 0, .ref q8, .ref q17, .ref q26, .int 0, .ref q35, .int 0, .ref q43, .ref q51, .ref q60, .ref q69, .int 0, .int 0, .ref q76, .ref q84, .int 0, .int 0])), (q8, .inl (cI, 200, .inl (fun _ => 0))), (q17, .inl (cZ, 164, .inl w52)), (q26, .inl (cZ, 984, .inl (fun _ => 0))), (q35, .inl (cZ, 164, .inl (fun _ => 0))), (q43, .inl (cI, 41, .inl (fun _ => 0))), (q51, .inl (cI, 41, .inl (fun _ => 0))), (q60, .inl (cZ, 241, .inl (fun _ => 0))), (q69, .inl (cZ, 241, .inl (fun _ => 0))), (q76, .inl (cI, 5, .inl (fun _ => 0))), (q84, .inl (cI, 7, .inl (fun _ => 0))), (q91, .inl (cI, 19, .inl w19))] := by rw [ew52]; exact hD
  refine lv_iinc (v := 11) (lv' := [(2, .int 11), (1, .ref q91), (0, .ref a_this)]) hx hb dX8_init_219 hl (k := 0) rfl (by decide) (by decide) rfl (fun ls hl => ?_)
  refine lv_goto (tgt := 204) hx hb dX8_init_222 (by decide) ?_
  refine lv_iload_n hx hb dX8_init_204 rfl (lv_at hl 0 rfl) ?_
  refine lv_aload_n hx hb dX8_init_205 rfl (lv_at hl 1 rfl) ?_
  refine va_alen (v := 19) hx hb hN.1 hP 11 0 rfl rfl rfl dX8_init_206 ?_
  refine lv_icmp_ge (tgt := 225) hx hb dX8_init_207 (by decide) (fun c53 => ?_) (fun c53 => ?_)
  · exact absurd c53 (by decide)
  refine lv_aload_n hx hb dX8_init_210 rfl (lv_at hl 2 rfl) ?_
  refine va_get (D := D) (ci := 8) (v := .ref q17) (C := RX8) (T := TX8) (N := 17) hx hb hts z5 hown hN.1 hP 0 rfl rfl 2 (by decide) z8 (fun _ h9 => h9) rfl dX8_init_211 ?_
  refine lv_aload_n hx hb dX8_init_214 rfl (lv_at hl 1 rfl) ?_
  refine lv_iload_n hx hb dX8_init_215 rfl (lv_at hl 0 rfl) ?_
  refine va_iald hx hb hN.1 hP 11 0 rfl rfl (ix_in (by decide)) dX8_init_216 ?_
  refine lv_topi (fun y54 ey54 => ?_)
  have ey54 : y54 = 91 := ey54.trans at_11
  subst ey54
  refine lv_iconst (v := 1) hx hb dX8_init_217 (by decide) ?_
  refine va_zast hx hb hN.1 hP hD hS 2 3 rfl rfl (ix_in (by decide)) dX8_init_218 (fun H locs hP hD hS => ?_)
  obtain ⟨w55, ew55⟩ : ∃ z : Nat → Int32, z = upd w52 91 1 := ⟨_, rfl⟩
  have hP : va_P D vwCl [(a_this, .inr (8, [.int 0, .ref q8, .ref q17, .ref q26, .int 0, .ref q35, .int 0, .ref q43, .ref q51, .ref q60, .ref q69, .int 0, .int 0, .ref q76, .ref q84, .int 0, .int 0])), (q8, .inl (cI, 200, .inl (fun _ => 0))), (q17, .inl (cZ, 164, .inl w55)), (q26, .inl (cZ, 984, .inl (fun _ => 0))), (q35, .inl (cZ, 164, .inl (fun _ => 0))), (q43, .inl (cI, 41, .inl (fun _ => 0))), (q51, .inl (cI, 41, .inl (fun _ => 0))), (q60, .inl (cZ, 241, .inl (fun _ => 0))), (q69, .inl (cZ, 241, .inl (fun _ => 0))), (q76, .inl (cI, 5, .inl (fun _ => 0))), (q84, .inl (cI, 7, .inl (fun _ => 0))), (q91, .inl (cI, 19, .inl w19))] H := by rw [ew55]; exact hP
  have hD : va_D A [(a_this, .inr (8, [.int 0, .ref q8, .ref q17, .ref q26, .int 0, .ref q35, .int 0, .ref q43, .ref q51, .ref q60, .ref q69, .int 0, .int 0, .ref q76, .ref q84, .int 0, .int 0])), (q8, .inl (cI, 200, .inl (fun _ => 0))), (q17, .inl (cZ, 164, .inl w55)), (q26, .inl (cZ, 984, .inl (fun _ => 0))), (q35, .inl (cZ, 164, .inl (fun _ => 0))), (q43, .inl (cI, 41, .inl (fun _ => 0))), (q51, .inl (cI, 41, .inl (fun _ => 0))), (q60, .inl (cZ, 241, .inl (fun _ => 0))), (q69, .inl (cZ, 241, .inl (fun _ => 0))), (q76, .inl (cI, 5, .inl (fun _ => 0))), (q84, .inl (cI, 7, .inl (fun _ => 0))), (q91, .inl (cI, 19, .inl w19))] := by rw [ew55]; exact hD
  refine lv_iinc (v := 12) (lv' := [(2, .int 12), (1, .ref q91), (0, .ref a_this)]) hx hb dX8_init_219 hl (k := 0) rfl (by decide) (by decide) rfl (fun ls hl => ?_)
  refine lv_goto (tgt := 204) hx hb dX8_init_222 (by decide) ?_
  refine lv_iload_n hx hb dX8_init_204 rfl (lv_at hl 0 rfl) ?_
  refine lv_aload_n hx hb dX8_init_205 rfl (lv_at hl 1 rfl) ?_
  refine va_alen (v := 19) hx hb hN.1 hP 11 0 rfl rfl rfl dX8_init_206 ?_
  refine lv_icmp_ge (tgt := 225) hx hb dX8_init_207 (by decide) (fun c56 => ?_) (fun c56 => ?_)
  · exact absurd c56 (by decide)
  refine lv_aload_n hx hb dX8_init_210 rfl (lv_at hl 2 rfl) ?_
  refine va_get (D := D) (ci := 8) (v := .ref q17) (C := RX8) (T := TX8) (N := 17) hx hb hts z5 hown hN.1 hP 0 rfl rfl 2 (by decide) z8 (fun _ h9 => h9) rfl dX8_init_211 ?_
  refine lv_aload_n hx hb dX8_init_214 rfl (lv_at hl 1 rfl) ?_
  refine lv_iload_n hx hb dX8_init_215 rfl (lv_at hl 0 rfl) ?_
  refine va_iald hx hb hN.1 hP 11 0 rfl rfl (ix_in (by decide)) dX8_init_216 ?_
  refine lv_topi (fun y57 ey57 => ?_)
  have ey57 : y57 = 94 := ey57.trans at_12
  subst ey57
  refine lv_iconst (v := 1) hx hb dX8_init_217 (by decide) ?_
  refine va_zast hx hb hN.1 hP hD hS 2 3 rfl rfl (ix_in (by decide)) dX8_init_218 (fun H locs hP hD hS => ?_)
  obtain ⟨w58, ew58⟩ : ∃ z : Nat → Int32, z = upd w55 94 1 := ⟨_, rfl⟩
  have hP : va_P D vwCl [(a_this, .inr (8, [.int 0, .ref q8, .ref q17, .ref q26, .int 0, .ref q35, .int 0, .ref q43, .ref q51, .ref q60, .ref q69, .int 0, .int 0, .ref q76, .ref q84, .int 0, .int 0])), (q8, .inl (cI, 200, .inl (fun _ => 0))), (q17, .inl (cZ, 164, .inl w58)), (q26, .inl (cZ, 984, .inl (fun _ => 0))), (q35, .inl (cZ, 164, .inl (fun _ => 0))), (q43, .inl (cI, 41, .inl (fun _ => 0))), (q51, .inl (cI, 41, .inl (fun _ => 0))), (q60, .inl (cZ, 241, .inl (fun _ => 0))), (q69, .inl (cZ, 241, .inl (fun _ => 0))), (q76, .inl (cI, 5, .inl (fun _ => 0))), (q84, .inl (cI, 7, .inl (fun _ => 0))), (q91, .inl (cI, 19, .inl w19))] H := by rw [ew58]; exact hP
  have hD : va_D A [(a_this, .inr (8, [.int 0, .ref q8, .ref q17, .ref q26, .int 0, .ref q35, .int 0, .ref q43, .ref q51, .ref q60, .ref q69, .int 0, .int 0, .ref q76, .ref q84, .int 0, .int 0])), (q8, .inl (cI, 200, .inl (fun _ => 0))), (q17, .inl (cZ, 164, .inl w58)), (q26, .inl (cZ, 984, .inl (fun _ => 0))), (q35, .inl (cZ, 164, .inl (fun _ => 0))), (q43, .inl (cI, 41, .inl (fun _ => 0))), (q51, .inl (cI, 41, .inl (fun _ => 0))), (q60, .inl (cZ, 241, .inl (fun _ => 0))), (q69, .inl (cZ, 241, .inl (fun _ => 0))), (q76, .inl (cI, 5, .inl (fun _ => 0))), (q84, .inl (cI, 7, .inl (fun _ => 0))), (q91, .inl (cI, 19, .inl w19))] := by rw [ew58]; exact hD
  refine lv_iinc (v := 13) (lv' := [(2, .int 13), (1, .ref q91), (0, .ref a_this)]) hx hb dX8_init_219 hl (k := 0) rfl (by decide) (by decide) rfl (fun ls hl => ?_)
  refine lv_goto (tgt := 204) hx hb dX8_init_222 (by decide) ?_
  refine lv_iload_n hx hb dX8_init_204 rfl (lv_at hl 0 rfl) ?_
  refine lv_aload_n hx hb dX8_init_205 rfl (lv_at hl 1 rfl) ?_
  refine va_alen (v := 19) hx hb hN.1 hP 11 0 rfl rfl rfl dX8_init_206 ?_
  refine lv_icmp_ge (tgt := 225) hx hb dX8_init_207 (by decide) (fun c59 => ?_) (fun c59 => ?_)
  · exact absurd c59 (by decide)
  refine lv_aload_n hx hb dX8_init_210 rfl (lv_at hl 2 rfl) ?_
  refine va_get (D := D) (ci := 8) (v := .ref q17) (C := RX8) (T := TX8) (N := 17) hx hb hts z5 hown hN.1 hP 0 rfl rfl 2 (by decide) z8 (fun _ h9 => h9) rfl dX8_init_211 ?_
  refine lv_aload_n hx hb dX8_init_214 rfl (lv_at hl 1 rfl) ?_
  refine lv_iload_n hx hb dX8_init_215 rfl (lv_at hl 0 rfl) ?_
  refine va_iald hx hb hN.1 hP 11 0 rfl rfl (ix_in (by decide)) dX8_init_216 ?_
  refine lv_topi (fun y60 ey60 => ?_)
  have ey60 : y60 = 123 := ey60.trans at_13
  subst ey60
  refine lv_iconst (v := 1) hx hb dX8_init_217 (by decide) ?_
  refine va_zast hx hb hN.1 hP hD hS 2 3 rfl rfl (ix_in (by decide)) dX8_init_218 (fun H locs hP hD hS => ?_)
  obtain ⟨w61, ew61⟩ : ∃ z : Nat → Int32, z = upd w58 123 1 := ⟨_, rfl⟩
  have hP : va_P D vwCl [(a_this, .inr (8, [.int 0, .ref q8, .ref q17, .ref q26, .int 0, .ref q35, .int 0, .ref q43, .ref q51, .ref q60, .ref q69, .int 0, .int 0, .ref q76, .ref q84, .int 0, .int 0])), (q8, .inl (cI, 200, .inl (fun _ => 0))), (q17, .inl (cZ, 164, .inl w61)), (q26, .inl (cZ, 984, .inl (fun _ => 0))), (q35, .inl (cZ, 164, .inl (fun _ => 0))), (q43, .inl (cI, 41, .inl (fun _ => 0))), (q51, .inl (cI, 41, .inl (fun _ => 0))), (q60, .inl (cZ, 241, .inl (fun _ => 0))), (q69, .inl (cZ, 241, .inl (fun _ => 0))), (q76, .inl (cI, 5, .inl (fun _ => 0))), (q84, .inl (cI, 7, .inl (fun _ => 0))), (q91, .inl (cI, 19, .inl w19))] H := by rw [ew61]; exact hP
  have hD : va_D A [(a_this, .inr (8, [.int 0, .ref q8, .ref q17, .ref q26, .int 0, .ref q35, .int 0, .ref q43, .ref q51, .ref q60, .ref q69, .int 0, .int 0, .ref q76, .ref q84, .int 0, .int 0])), (q8, .inl (cI, 200, .inl (fun _ => 0))), (q17, .inl (cZ, 164, .inl w61)), (q26, .inl (cZ, 984, .inl (fun _ => 0))), (q35, .inl (cZ, 164, .inl (fun _ => 0))), (q43, .inl (cI, 41, .inl (fun _ => 0))), (q51, .inl (cI, 41, .inl (fun _ => 0))), (q60, .inl (cZ, 241, .inl (fun _ => 0))), (q69, .inl (cZ, 241, .inl (fun _ => 0))), (q76, .inl (cI, 5, .inl (fun _ => 0))), (q84, .inl (cI, 7, .inl (fun _ => 0))), (q91, .inl (cI, 19, .inl w19))] := by rw [ew61]; exact hD
  refine lv_iinc (v := 14) (lv' := [(2, .int 14), (1, .ref q91), (0, .ref a_this)]) hx hb dX8_init_219 hl (k := 0) rfl (by decide) (by decide) rfl (fun ls hl => ?_)
  refine lv_goto (tgt := 204) hx hb dX8_init_222 (by decide) ?_
  refine lv_iload_n hx hb dX8_init_204 rfl (lv_at hl 0 rfl) ?_
  refine lv_aload_n hx hb dX8_init_205 rfl (lv_at hl 1 rfl) ?_
  refine va_alen (v := 19) hx hb hN.1 hP 11 0 rfl rfl rfl dX8_init_206 ?_
  refine lv_icmp_ge (tgt := 225) hx hb dX8_init_207 (by decide) (fun c62 => ?_) (fun c62 => ?_)
  · exact absurd c62 (by decide)
  refine lv_aload_n hx hb dX8_init_210 rfl (lv_at hl 2 rfl) ?_
  refine va_get (D := D) (ci := 8) (v := .ref q17) (C := RX8) (T := TX8) (N := 17) hx hb hts z5 hown hN.1 hP 0 rfl rfl 2 (by decide) z8 (fun _ h9 => h9) rfl dX8_init_211 ?_
  refine lv_aload_n hx hb dX8_init_214 rfl (lv_at hl 1 rfl) ?_
  refine lv_iload_n hx hb dX8_init_215 rfl (lv_at hl 0 rfl) ?_
  refine va_iald hx hb hN.1 hP 11 0 rfl rfl (ix_in (by decide)) dX8_init_216 ?_
  refine lv_topi (fun y63 ey63 => ?_)
  have ey63 : y63 = 124 := ey63.trans at_14
  subst ey63
  refine lv_iconst (v := 1) hx hb dX8_init_217 (by decide) ?_
  refine va_zast hx hb hN.1 hP hD hS 2 3 rfl rfl (ix_in (by decide)) dX8_init_218 (fun H locs hP hD hS => ?_)
  obtain ⟨w64, ew64⟩ : ∃ z : Nat → Int32, z = upd w61 124 1 := ⟨_, rfl⟩
  have hP : va_P D vwCl [(a_this, .inr (8, [.int 0, .ref q8, .ref q17, .ref q26, .int 0, .ref q35, .int 0, .ref q43, .ref q51, .ref q60, .ref q69, .int 0, .int 0, .ref q76, .ref q84, .int 0, .int 0])), (q8, .inl (cI, 200, .inl (fun _ => 0))), (q17, .inl (cZ, 164, .inl w64)), (q26, .inl (cZ, 984, .inl (fun _ => 0))), (q35, .inl (cZ, 164, .inl (fun _ => 0))), (q43, .inl (cI, 41, .inl (fun _ => 0))), (q51, .inl (cI, 41, .inl (fun _ => 0))), (q60, .inl (cZ, 241, .inl (fun _ => 0))), (q69, .inl (cZ, 241, .inl (fun _ => 0))), (q76, .inl (cI, 5, .inl (fun _ => 0))), (q84, .inl (cI, 7, .inl (fun _ => 0))), (q91, .inl (cI, 19, .inl w19))] H := by rw [ew64]; exact hP
  have hD : va_D A [(a_this, .inr (8, [.int 0, .ref q8, .ref q17, .ref q26, .int 0, .ref q35, .int 0, .ref q43, .ref q51, .ref q60, .ref q69, .int 0, .int 0, .ref q76, .ref q84, .int 0, .int 0])), (q8, .inl (cI, 200, .inl (fun _ => 0))), (q17, .inl (cZ, 164, .inl w64)), (q26, .inl (cZ, 984, .inl (fun _ => 0))), (q35, .inl (cZ, 164, .inl (fun _ => 0))), (q43, .inl (cI, 41, .inl (fun _ => 0))), (q51, .inl (cI, 41, .inl (fun _ => 0))), (q60, .inl (cZ, 241, .inl (fun _ => 0))), (q69, .inl (cZ, 241, .inl (fun _ => 0))), (q76, .inl (cI, 5, .inl (fun _ => 0))), (q84, .inl (cI, 7, .inl (fun _ => 0))), (q91, .inl (cI, 19, .inl w19))] := by rw [ew64]; exact hD
  refine lv_iinc (v := 15) (lv' := [(2, .int 15), (1, .ref q91), (0, .ref a_this)]) hx hb dX8_init_219 hl (k := 0) rfl (by decide) (by decide) rfl (fun ls hl => ?_)
  refine lv_goto (tgt := 204) hx hb dX8_init_222 (by decide) ?_
  refine lv_iload_n hx hb dX8_init_204 rfl (lv_at hl 0 rfl) ?_
  refine lv_aload_n hx hb dX8_init_205 rfl (lv_at hl 1 rfl) ?_
  refine va_alen (v := 19) hx hb hN.1 hP 11 0 rfl rfl rfl dX8_init_206 ?_
  refine lv_icmp_ge (tgt := 225) hx hb dX8_init_207 (by decide) (fun c65 => ?_) (fun c65 => ?_)
  · exact absurd c65 (by decide)
  refine lv_aload_n hx hb dX8_init_210 rfl (lv_at hl 2 rfl) ?_
  refine va_get (D := D) (ci := 8) (v := .ref q17) (C := RX8) (T := TX8) (N := 17) hx hb hts z5 hown hN.1 hP 0 rfl rfl 2 (by decide) z8 (fun _ h9 => h9) rfl dX8_init_211 ?_
  refine lv_aload_n hx hb dX8_init_214 rfl (lv_at hl 1 rfl) ?_
  refine lv_iload_n hx hb dX8_init_215 rfl (lv_at hl 0 rfl) ?_
  refine va_iald hx hb hN.1 hP 11 0 rfl rfl (ix_in (by decide)) dX8_init_216 ?_
  refine lv_topi (fun y66 ey66 => ?_)
  have ey66 : y66 = 133 := ey66.trans at_15
  subst ey66
  refine lv_iconst (v := 1) hx hb dX8_init_217 (by decide) ?_
  refine va_zast hx hb hN.1 hP hD hS 2 3 rfl rfl (ix_in (by decide)) dX8_init_218 (fun H locs hP hD hS => ?_)
  obtain ⟨w67, ew67⟩ : ∃ z : Nat → Int32, z = upd w64 133 1 := ⟨_, rfl⟩
  have hP : va_P D vwCl [(a_this, .inr (8, [.int 0, .ref q8, .ref q17, .ref q26, .int 0, .ref q35, .int 0, .ref q43, .ref q51, .ref q60, .ref q69, .int 0, .int 0, .ref q76, .ref q84, .int 0, .int 0])), (q8, .inl (cI, 200, .inl (fun _ => 0))), (q17, .inl (cZ, 164, .inl w67)), (q26, .inl (cZ, 984, .inl (fun _ => 0))), (q35, .inl (cZ, 164, .inl (fun _ => 0))), (q43, .inl (cI, 41, .inl (fun _ => 0))), (q51, .inl (cI, 41, .inl (fun _ => 0))), (q60, .inl (cZ, 241, .inl (fun _ => 0))), (q69, .inl (cZ, 241, .inl (fun _ => 0))), (q76, .inl (cI, 5, .inl (fun _ => 0))), (q84, .inl (cI, 7, .inl (fun _ => 0))), (q91, .inl (cI, 19, .inl w19))] H := by rw [ew67]; exact hP
  have hD : va_D A [(a_this, .inr (8, [.int 0, .ref q8, .ref q17, .ref q26, .int 0, .ref q35, .int 0, .ref q43, .ref q51, .ref q60, .ref q69, .int 0, .int 0, .ref q76, .ref q84, .int 0, .int 0])), (q8, .inl (cI, 200, .inl (fun _ => 0))), (q17, .inl (cZ, 164, .inl w67)), (q26, .inl (cZ, 984, .inl (fun _ => 0))), (q35, .inl (cZ, 164, .inl (fun _ => 0))), (q43, .inl (cI, 41, .inl (fun _ => 0))), (q51, .inl (cI, 41, .inl (fun _ => 0))), (q60, .inl (cZ, 241, .inl (fun _ => 0))), (q69, .inl (cZ, 241, .inl (fun _ => 0))), (q76, .inl (cI, 5, .inl (fun _ => 0))), (q84, .inl (cI, 7, .inl (fun _ => 0))), (q91, .inl (cI, 19, .inl w19))] := by rw [ew67]; exact hD
  refine lv_iinc (v := 16) (lv' := [(2, .int 16), (1, .ref q91), (0, .ref a_this)]) hx hb dX8_init_219 hl (k := 0) rfl (by decide) (by decide) rfl (fun ls hl => ?_)
  refine lv_goto (tgt := 204) hx hb dX8_init_222 (by decide) ?_
  refine lv_iload_n hx hb dX8_init_204 rfl (lv_at hl 0 rfl) ?_
  refine lv_aload_n hx hb dX8_init_205 rfl (lv_at hl 1 rfl) ?_
  refine va_alen (v := 19) hx hb hN.1 hP 11 0 rfl rfl rfl dX8_init_206 ?_
  refine lv_icmp_ge (tgt := 225) hx hb dX8_init_207 (by decide) (fun c68 => ?_) (fun c68 => ?_)
  · exact absurd c68 (by decide)
  refine lv_aload_n hx hb dX8_init_210 rfl (lv_at hl 2 rfl) ?_
  refine va_get (D := D) (ci := 8) (v := .ref q17) (C := RX8) (T := TX8) (N := 17) hx hb hts z5 hown hN.1 hP 0 rfl rfl 2 (by decide) z8 (fun _ h9 => h9) rfl dX8_init_211 ?_
  refine lv_aload_n hx hb dX8_init_214 rfl (lv_at hl 1 rfl) ?_
  refine lv_iload_n hx hb dX8_init_215 rfl (lv_at hl 0 rfl) ?_
  refine va_iald hx hb hN.1 hP 11 0 rfl rfl (ix_in (by decide)) dX8_init_216 ?_
  refine lv_topi (fun y69 ey69 => ?_)
  have ey69 : y69 = 134 := ey69.trans at_16
  subst ey69
  refine lv_iconst (v := 1) hx hb dX8_init_217 (by decide) ?_
  refine va_zast hx hb hN.1 hP hD hS 2 3 rfl rfl (ix_in (by decide)) dX8_init_218 (fun H locs hP hD hS => ?_)
  obtain ⟨w70, ew70⟩ : ∃ z : Nat → Int32, z = upd w67 134 1 := ⟨_, rfl⟩
  have hP : va_P D vwCl [(a_this, .inr (8, [.int 0, .ref q8, .ref q17, .ref q26, .int 0, .ref q35, .int 0, .ref q43, .ref q51, .ref q60, .ref q69, .int 0, .int 0, .ref q76, .ref q84, .int 0, .int 0])), (q8, .inl (cI, 200, .inl (fun _ => 0))), (q17, .inl (cZ, 164, .inl w70)), (q26, .inl (cZ, 984, .inl (fun _ => 0))), (q35, .inl (cZ, 164, .inl (fun _ => 0))), (q43, .inl (cI, 41, .inl (fun _ => 0))), (q51, .inl (cI, 41, .inl (fun _ => 0))), (q60, .inl (cZ, 241, .inl (fun _ => 0))), (q69, .inl (cZ, 241, .inl (fun _ => 0))), (q76, .inl (cI, 5, .inl (fun _ => 0))), (q84, .inl (cI, 7, .inl (fun _ => 0))), (q91, .inl (cI, 19, .inl w19))] H := by rw [ew70]; exact hP
  have hD : va_D A [(a_this, .inr (8, [.int 0, .ref q8, .ref q17, .ref q26, .int 0, .ref q35, .int 0, .ref q43, .ref q51, .ref q60, .ref q69, .int 0, .int 0, .ref q76, .ref q84, .int 0, .int 0])), (q8, .inl (cI, 200, .inl (fun _ => 0))), (q17, .inl (cZ, 164, .inl w70)), (q26, .inl (cZ, 984, .inl (fun _ => 0))), (q35, .inl (cZ, 164, .inl (fun _ => 0))), (q43, .inl (cI, 41, .inl (fun _ => 0))), (q51, .inl (cI, 41, .inl (fun _ => 0))), (q60, .inl (cZ, 241, .inl (fun _ => 0))), (q69, .inl (cZ, 241, .inl (fun _ => 0))), (q76, .inl (cI, 5, .inl (fun _ => 0))), (q84, .inl (cI, 7, .inl (fun _ => 0))), (q91, .inl (cI, 19, .inl w19))] := by rw [ew70]; exact hD
  refine lv_iinc (v := 17) (lv' := [(2, .int 17), (1, .ref q91), (0, .ref a_this)]) hx hb dX8_init_219 hl (k := 0) rfl (by decide) (by decide) rfl (fun ls hl => ?_)
  refine lv_goto (tgt := 204) hx hb dX8_init_222 (by decide) ?_
  refine lv_iload_n hx hb dX8_init_204 rfl (lv_at hl 0 rfl) ?_
  refine lv_aload_n hx hb dX8_init_205 rfl (lv_at hl 1 rfl) ?_
  refine va_alen (v := 19) hx hb hN.1 hP 11 0 rfl rfl rfl dX8_init_206 ?_
  refine lv_icmp_ge (tgt := 225) hx hb dX8_init_207 (by decide) (fun c71 => ?_) (fun c71 => ?_)
  · exact absurd c71 (by decide)
  refine lv_aload_n hx hb dX8_init_210 rfl (lv_at hl 2 rfl) ?_
  refine va_get (D := D) (ci := 8) (v := .ref q17) (C := RX8) (T := TX8) (N := 17) hx hb hts z5 hown hN.1 hP 0 rfl rfl 2 (by decide) z8 (fun _ h9 => h9) rfl dX8_init_211 ?_
  refine lv_aload_n hx hb dX8_init_214 rfl (lv_at hl 1 rfl) ?_
  refine lv_iload_n hx hb dX8_init_215 rfl (lv_at hl 0 rfl) ?_
  refine va_iald hx hb hN.1 hP 11 0 rfl rfl (ix_in (by decide)) dX8_init_216 ?_
  refine lv_topi (fun y72 ey72 => ?_)
  have ey72 : y72 = 143 := ey72.trans at_17
  subst ey72
  refine lv_iconst (v := 1) hx hb dX8_init_217 (by decide) ?_
  refine va_zast hx hb hN.1 hP hD hS 2 3 rfl rfl (ix_in (by decide)) dX8_init_218 (fun H locs hP hD hS => ?_)
  obtain ⟨w73, ew73⟩ : ∃ z : Nat → Int32, z = upd w70 143 1 := ⟨_, rfl⟩
  have hP : va_P D vwCl [(a_this, .inr (8, [.int 0, .ref q8, .ref q17, .ref q26, .int 0, .ref q35, .int 0, .ref q43, .ref q51, .ref q60, .ref q69, .int 0, .int 0, .ref q76, .ref q84, .int 0, .int 0])), (q8, .inl (cI, 200, .inl (fun _ => 0))), (q17, .inl (cZ, 164, .inl w73)), (q26, .inl (cZ, 984, .inl (fun _ => 0))), (q35, .inl (cZ, 164, .inl (fun _ => 0))), (q43, .inl (cI, 41, .inl (fun _ => 0))), (q51, .inl (cI, 41, .inl (fun _ => 0))), (q60, .inl (cZ, 241, .inl (fun _ => 0))), (q69, .inl (cZ, 241, .inl (fun _ => 0))), (q76, .inl (cI, 5, .inl (fun _ => 0))), (q84, .inl (cI, 7, .inl (fun _ => 0))), (q91, .inl (cI, 19, .inl w19))] H := by rw [ew73]; exact hP
  have hD : va_D A [(a_this, .inr (8, [.int 0, .ref q8, .ref q17, .ref q26, .int 0, .ref q35, .int 0, .ref q43, .ref q51, .ref q60, .ref q69, .int 0, .int 0, .ref q76, .ref q84, .int 0, .int 0])), (q8, .inl (cI, 200, .inl (fun _ => 0))), (q17, .inl (cZ, 164, .inl w73)), (q26, .inl (cZ, 984, .inl (fun _ => 0))), (q35, .inl (cZ, 164, .inl (fun _ => 0))), (q43, .inl (cI, 41, .inl (fun _ => 0))), (q51, .inl (cI, 41, .inl (fun _ => 0))), (q60, .inl (cZ, 241, .inl (fun _ => 0))), (q69, .inl (cZ, 241, .inl (fun _ => 0))), (q76, .inl (cI, 5, .inl (fun _ => 0))), (q84, .inl (cI, 7, .inl (fun _ => 0))), (q91, .inl (cI, 19, .inl w19))] := by rw [ew73]; exact hD
  refine lv_iinc (v := 18) (lv' := [(2, .int 18), (1, .ref q91), (0, .ref a_this)]) hx hb dX8_init_219 hl (k := 0) rfl (by decide) (by decide) rfl (fun ls hl => ?_)
  refine lv_goto (tgt := 204) hx hb dX8_init_222 (by decide) ?_
  refine lv_iload_n hx hb dX8_init_204 rfl (lv_at hl 0 rfl) ?_
  refine lv_aload_n hx hb dX8_init_205 rfl (lv_at hl 1 rfl) ?_
  refine va_alen (v := 19) hx hb hN.1 hP 11 0 rfl rfl rfl dX8_init_206 ?_
  refine lv_icmp_ge (tgt := 225) hx hb dX8_init_207 (by decide) (fun c74 => ?_) (fun c74 => ?_)
  · exact absurd c74 (by decide)
  refine lv_aload_n hx hb dX8_init_210 rfl (lv_at hl 2 rfl) ?_
  refine va_get (D := D) (ci := 8) (v := .ref q17) (C := RX8) (T := TX8) (N := 17) hx hb hts z5 hown hN.1 hP 0 rfl rfl 2 (by decide) z8 (fun _ h9 => h9) rfl dX8_init_211 ?_
  refine lv_aload_n hx hb dX8_init_214 rfl (lv_at hl 1 rfl) ?_
  refine lv_iload_n hx hb dX8_init_215 rfl (lv_at hl 0 rfl) ?_
  refine va_iald hx hb hN.1 hP 11 0 rfl rfl (ix_in (by decide)) dX8_init_216 ?_
  refine lv_topi (fun y75 ey75 => ?_)
  have ey75 : y75 = 144 := ey75.trans at_18
  subst ey75
  refine lv_iconst (v := 1) hx hb dX8_init_217 (by decide) ?_
  refine va_zast hx hb hN.1 hP hD hS 2 3 rfl rfl (ix_in (by decide)) dX8_init_218 (fun H locs hP hD hS => ?_)
  obtain ⟨w76, ew76⟩ : ∃ z : Nat → Int32, z = upd w73 144 1 := ⟨_, rfl⟩
  have hP : va_P D vwCl [(a_this, .inr (8, [.int 0, .ref q8, .ref q17, .ref q26, .int 0, .ref q35, .int 0, .ref q43, .ref q51, .ref q60, .ref q69, .int 0, .int 0, .ref q76, .ref q84, .int 0, .int 0])), (q8, .inl (cI, 200, .inl (fun _ => 0))), (q17, .inl (cZ, 164, .inl w76)), (q26, .inl (cZ, 984, .inl (fun _ => 0))), (q35, .inl (cZ, 164, .inl (fun _ => 0))), (q43, .inl (cI, 41, .inl (fun _ => 0))), (q51, .inl (cI, 41, .inl (fun _ => 0))), (q60, .inl (cZ, 241, .inl (fun _ => 0))), (q69, .inl (cZ, 241, .inl (fun _ => 0))), (q76, .inl (cI, 5, .inl (fun _ => 0))), (q84, .inl (cI, 7, .inl (fun _ => 0))), (q91, .inl (cI, 19, .inl w19))] H := by rw [ew76]; exact hP
  have hD : va_D A [(a_this, .inr (8, [.int 0, .ref q8, .ref q17, .ref q26, .int 0, .ref q35, .int 0, .ref q43, .ref q51, .ref q60, .ref q69, .int 0, .int 0, .ref q76, .ref q84, .int 0, .int 0])), (q8, .inl (cI, 200, .inl (fun _ => 0))), (q17, .inl (cZ, 164, .inl w76)), (q26, .inl (cZ, 984, .inl (fun _ => 0))), (q35, .inl (cZ, 164, .inl (fun _ => 0))), (q43, .inl (cI, 41, .inl (fun _ => 0))), (q51, .inl (cI, 41, .inl (fun _ => 0))), (q60, .inl (cZ, 241, .inl (fun _ => 0))), (q69, .inl (cZ, 241, .inl (fun _ => 0))), (q76, .inl (cI, 5, .inl (fun _ => 0))), (q84, .inl (cI, 7, .inl (fun _ => 0))), (q91, .inl (cI, 19, .inl w19))] := by rw [ew76]; exact hD
  refine lv_iinc (v := 19) (lv' := [(2, .int 19), (1, .ref q91), (0, .ref a_this)]) hx hb dX8_init_219 hl (k := 0) rfl (by decide) (by decide) rfl (fun ls hl => ?_)
  refine lv_goto (tgt := 204) hx hb dX8_init_222 (by decide) ?_
  refine lv_iload_n hx hb dX8_init_204 rfl (lv_at hl 0 rfl) ?_
  refine lv_aload_n hx hb dX8_init_205 rfl (lv_at hl 1 rfl) ?_
  refine va_alen (v := 19) hx hb hN.1 hP 11 0 rfl rfl rfl dX8_init_206 ?_
  refine lv_icmp_ge (tgt := 225) hx hb dX8_init_207 (by decide) (fun c77 => ?_) (fun c77 => ?_)
  rotate_left
  · exact absurd (by decide) c77
  have eNow : w76 = nowFirst := by rw [ew76, ew73, ew70, ew67, ew64, ew61, ew58, ew55, ew52, ew49, ew46, ew43, ew40, ew37, ew34, ew31, ew28, ew25, ew22]; rfl
  have hP : va_P D vwCl [(a_this, .inr (8, [.int 0, .ref q8, .ref q17, .ref q26, .int 0, .ref q35, .int 0, .ref q43, .ref q51, .ref q60, .ref q69, .int 0, .int 0, .ref q76, .ref q84, .int 0, .int 0])), (q8, .inl (cI, 200, .inl (fun _ => 0))), (q17, .inl (cZ, 164, .inl nowFirst)), (q26, .inl (cZ, 984, .inl (fun _ => 0))), (q35, .inl (cZ, 164, .inl (fun _ => 0))), (q43, .inl (cI, 41, .inl (fun _ => 0))), (q51, .inl (cI, 41, .inl (fun _ => 0))), (q60, .inl (cZ, 241, .inl (fun _ => 0))), (q69, .inl (cZ, 241, .inl (fun _ => 0))), (q76, .inl (cI, 5, .inl (fun _ => 0))), (q84, .inl (cI, 7, .inl (fun _ => 0)))] H := by rw [← eNow]; exact hP.sub [0, 1, 2, 3, 4, 5, 6, 7, 8, 9, 10] rfl
  have hD : va_D A [(a_this, .inr (8, [.int 0, .ref q8, .ref q17, .ref q26, .int 0, .ref q35, .int 0, .ref q43, .ref q51, .ref q60, .ref q69, .int 0, .int 0, .ref q76, .ref q84, .int 0, .int 0])), (q8, .inl (cI, 200, .inl (fun _ => 0))), (q17, .inl (cZ, 164, .inl nowFirst)), (q26, .inl (cZ, 984, .inl (fun _ => 0))), (q35, .inl (cZ, 164, .inl (fun _ => 0))), (q43, .inl (cI, 41, .inl (fun _ => 0))), (q51, .inl (cI, 41, .inl (fun _ => 0))), (q60, .inl (cZ, 241, .inl (fun _ => 0))), (q69, .inl (cZ, 241, .inl (fun _ => 0))), (q76, .inl (cI, 5, .inl (fun _ => 0))), (q84, .inl (cI, 7, .inl (fun _ => 0)))] := by rw [← eNow]; exact hD.sub [0, 1, 2, 3, 4, 5, 6, 7, 8, 9, 10] (by decide) rfl
  exact rtN (q8, q17, q26, q35, q43, q51, q60, q69, q76, q84) hx hb hr hlk hP hD hS dX8_init_225
