abbrev rmX5_bestSet : Room := { frames := 0, cells := 0, slots := 0, locals := 0 }
noncomputable def bX5_bestSet_32 (x1 : Int64) (x3 : Int32) (g_bestPart : Int32) (g_numbers : Nat → Int32) : Option ((Int64 × Int32) ⊕ (Int64)) := lt_ (x3 + (1 : Int32)) (fun y1 => some (Sum.inl ((x1, y1))))
noncomputable def bX5_bestSet_4 (g_bestPart : Int32) (g_numbers : Nat → Int32) (x1 : Int64) (x3 : Int32) : Option ((Int64 × Int32) ⊕ (Int64)) := br ((12 : Int32) ≤ x3) (some (Sum.inr (x1))) (br ((((g_bestPart.toUInt32 >>> (x3.toUInt32 &&& Int32.toUInt32 31)).toInt32) &&& (1 : Int32)) = 0) (bX5_bestSet_32 x1 x3 g_bestPart g_numbers) (gd (¬ x3 < 0 ∧ x3.toNatClampNeg < 12) (lt_ (x1 ||| ((1 : Int64) <<< ((g_numbers x3.toNatClampNeg).toInt64 &&& 63))) (fun y5 => bX5_bestSet_32 y5 x3 g_bestPart g_numbers))))
noncomputable def sX5_bestSet_4 (g_bestPart : Int32) (g_numbers : Nat → Int32) : (Int64 × Int32) → Option ((Int64 × Int32) ⊕ (Int64)) := fun q => bX5_bestSet_4 g_bestPart g_numbers q.1 q.2
noncomputable def fX5_bestSet (g_bestPart : Int32) (g_numbers : Nat → Int32) : Option (Int64) := run (sX5_bestSet_4 g_bestPart g_numbers) (((0 : Int64), (0 : Int32)))
set_option maxHeartbeats 4000000 in
set_option maxRecDepth 100000 in
theorem cX5_bestSet_ct (l : Launch) (D : va_G) (cI cL cC cZ : ClassId) (a_this a_numbers a_low a_high : Nat) (g_whole : Int64) (g_added : Int64) (g_bestPart : Int32) (g_bestSums : Int32) (g_bestSize : Int32) (g_numbers : Nat → Int32) (r0 : Int64) (hf : fX5_bestSet g_bestPart g_numbers = some r0) : CtL l yX5_bestSet wsX5_bestSet rmX5_bestSet D (tyz cI cL cC cZ) [.ref a_this] [(a_this, .inr (5, [.ref a_numbers, .ref a_low, .ref a_high, .long g_whole, .long g_added, .int g_bestPart, .int g_bestSums, .int g_bestSize])), (a_numbers, .inl (cI, 12, .inl g_numbers))] [(a_this, .inr (5, [.ref a_numbers, .ref a_low, .ref a_high, .long g_whole, .long g_added, .int g_bestPart, .int g_bestSums, .int g_bestSize])), (a_numbers, .inl (cI, 12, .inl g_numbers))] r0 := by
  refine CtL.make (cc := cX5_bestSet) (maxL := 4) (ty := .long) (by decide) rfl (Nat.le_of_ble_eq_true rfl) ?_
  intro p e s m below meth c A ls C0 hN hA hP hD hl
  obtain ⟨hx, hb, hr, hml, hown, hts, hlk⟩ := id C0
  have hown : s.vm.findClass RX5 = some m.cls := hown
  have hS : va_S A s.heap s.heap [] := va_S.rf
  have hP : va_P D vwCl [(a_this, .inr (5, [.ref a_numbers, .ref a_low, .ref a_high, .long g_whole, .long g_added, .int g_bestPart, .int g_bestSums, .int g_bestSize])), (a_numbers, .inl (cI, 12, .inl g_numbers))] s.heap := hP
  have hD : va_D A [(a_this, .inr (5, [.ref a_numbers, .ref a_low, .ref a_high, .long g_whole, .long g_added, .int g_bestPart, .int g_bestSums, .int g_bestSize])), (a_numbers, .inl (cI, 12, .inl g_numbers))] := hD
  have hl : lv_has ls 4 [(0, .ref a_this)] := hl
  have z1 : ∀ w ∈ u_ws RX5 TX5 8, w ∈ wsX5_bestSet := by decide +kernel
  have z2 := hts (.fieldLink RX5 29 "LittleSums$SwellingSearch" "bestPart" "I") (by decide +kernel)
  have z3 := hts (.fieldLink RX5 9 "LittleSums$SwellingSearch" "numbers" "[I") (by decide +kernel)
  have w4 : ∀ (g_bestPart : Int32) (g_numbers : Nat → Int32) (x1 : Int64) (x3 : Int32) (t : Int64) (H : Heap) (locs : List Loc) (ls : Array Slot), run (sX5_bestSet_4 g_bestPart g_numbers) ((x1, x3)) = some t → (fun z => z = r0) t → va_P D vwCl [(a_this, .inr (5, [.ref a_numbers, .ref a_low, .ref a_high, .long g_whole, .long g_added, .int g_bestPart, .int g_bestSums, .int g_bestSize])), (a_numbers, .inl (cI, 12, .inl g_numbers))] H → va_D A [(a_this, .inr (5, [.ref a_numbers, .ref a_low, .ref a_high, .long g_whole, .long g_added, .int g_bestPart, .int g_bestSums, .int g_bestSize])), (a_numbers, .inl (cI, 12, .inl g_numbers))] → va_S A s.heap H locs → lv_has ls 4 [(0, .ref a_this), (1, .long x1), (3, .int x3)] → W p l e rmX5_bestSet s m ([.ref a_this] : List Value).toArray below meth c H locs 0 0 (MQ below (cQl D r0 A [(a_this, .inr (5, [.ref a_numbers, .ref a_low, .ref a_high, .long g_whole, .long g_added, .int g_bestPart, .int g_bestSums, .int g_bestSize])), (a_numbers, .inl (cI, 12, .inl g_numbers))]) ([.ref a_this] : List Value).toArray s 0 0 A) (F0 m 4 ls []) := by
    intro g_bestPart g_numbers
    obtain ⟨F4, eF4⟩ : ∃ F : (Int64 × Int32) → Prop, F = fun q => ∀ (H : Heap) (locs : List Loc) (ls : Array Slot), va_P D vwCl [(a_this, .inr (5, [.ref a_numbers, .ref a_low, .ref a_high, .long g_whole, .long g_added, .int g_bestPart, .int g_bestSums, .int g_bestSize])), (a_numbers, .inl (cI, 12, .inl g_numbers))] H → va_D A [(a_this, .inr (5, [.ref a_numbers, .ref a_low, .ref a_high, .long g_whole, .long g_added, .int g_bestPart, .int g_bestSums, .int g_bestSize])), (a_numbers, .inl (cI, 12, .inl g_numbers))] → va_S A s.heap H locs → lv_has ls 4 [(0, .ref a_this), (1, .long q.1), (3, .int q.2)] → W p l e rmX5_bestSet s m ([.ref a_this] : List Value).toArray below meth c H locs 0 0 (MQ below (cQl D r0 A [(a_this, .inr (5, [.ref a_numbers, .ref a_low, .ref a_high, .long g_whole, .long g_added, .int g_bestPart, .int g_bestSums, .int g_bestSize])), (a_numbers, .inl (cI, 12, .inl g_numbers))]) ([.ref a_this] : List Value).toArray s 0 0 A) (F0 m 4 ls []) := ⟨_, rfl⟩
    have key : ∀ (q : Int64 × Int32) (t : Int64), run (sX5_bestSet_4 g_bestPart g_numbers) q = some t → (fun z => z = r0) t → F4 q := by
      refine loop_rule (sX5_bestSet_4 g_bestPart g_numbers) F4 (fun z => z = r0) ?_
      intro q t hf hF
      have hF : (Sum.elim F4 (fun z => z = r0)) t := hF
      have w32 : ∀ (x1 : Int64) (x3 : Int32) (t : (Int64 × Int32) ⊕ (Int64)) (H : Heap) (locs : List Loc) (ls : Array Slot), bX5_bestSet_32 x1 x3 g_bestPart g_numbers = some t → (Sum.elim F4 (fun z => z = r0)) t → va_P D vwCl [(a_this, .inr (5, [.ref a_numbers, .ref a_low, .ref a_high, .long g_whole, .long g_added, .int g_bestPart, .int g_bestSums, .int g_bestSize])), (a_numbers, .inl (cI, 12, .inl g_numbers))] H → va_D A [(a_this, .inr (5, [.ref a_numbers, .ref a_low, .ref a_high, .long g_whole, .long g_added, .int g_bestPart, .int g_bestSums, .int g_bestSize])), (a_numbers, .inl (cI, 12, .inl g_numbers))] → va_S A s.heap H locs → lv_has ls 4 [(0, .ref a_this), (1, .long x1), (3, .int x3)] → W p l e rmX5_bestSet s m ([.ref a_this] : List Value).toArray below meth c H locs 0 0 (MQ below (cQl D r0 A [(a_this, .inr (5, [.ref a_numbers, .ref a_low, .ref a_high, .long g_whole, .long g_added, .int g_bestPart, .int g_bestSums, .int g_bestSize])), (a_numbers, .inl (cI, 12, .inl g_numbers))]) ([.ref a_this] : List Value).toArray s 0 0 A) (F0 m 32 ls []) := by
        intro x1 x3 t H locs ls hf hF hP hD hS hl
        unfold bX5_bestSet_32 at hf
        obtain ⟨y1, ey1⟩ : ∃ z : Int32, z = x3 + (1 : Int32) := ⟨_, rfl⟩
        have hf := lt_some hf y1 ey1
        refine lv_iinc (v := y1) (lv' := [(3, .int y1), (0, .ref a_this), (1, .long x1)]) hx hb dX5_bestSet_32 hl (k := 2) rfl (by rw [ey1]; rfl) (by decide) rfl (fun ls hl => ?_)
        refine lv_goto (tgt := 4) hx hb dX5_bestSet_35 (by decide) ?_
        cases hf
        exact ((congrFun eF4 _).mp hF) H locs ls hP hD hS (lv_sub hl [1, 2, 0] rfl)
      rw [eF4]
      obtain ⟨x1, x3⟩ := q
      intro H locs ls hP hD hS hl
      have hP : va_P D vwCl [(a_this, .inr (5, [.ref a_numbers, .ref a_low, .ref a_high, .long g_whole, .long g_added, .int g_bestPart, .int g_bestSums, .int g_bestSize])), (a_numbers, .inl (cI, 12, .inl g_numbers))] H := hP
      have hD : va_D A [(a_this, .inr (5, [.ref a_numbers, .ref a_low, .ref a_high, .long g_whole, .long g_added, .int g_bestPart, .int g_bestSums, .int g_bestSize])), (a_numbers, .inl (cI, 12, .inl g_numbers))] := hD
      have hl : lv_has ls 4 [(0, .ref a_this), (1, .long x1), (3, .int x3)] := hl
      have hf : bX5_bestSet_4 g_bestPart g_numbers x1 x3 = some t := hf
      unfold bX5_bestSet_4 at hf
      refine lv_iload_n hx hb dX5_bestSet_4 rfl (lv_at hl 2 rfl) ?_
      refine lv_bipush (v := 12) hx hb dX5_bestSet_5 (by decide) ?_
      refine lv_icmp_ge (tgt := 38) hx hb dX5_bestSet_7 (by decide) (fun c2 => ?_) (fun c2 => ?_)
      · have hf := br_pos c2 hf
        refine lv_lload_n hx hb dX5_bestSet_38 rfl (lv_at hl 1 rfl) ?_
        cases hf
        have hE : x1 = r0 := hF
        subst hE
        exact rtL hx hb hr hlk hP hD hS dX5_bestSet_39
      · have hf := br_neg c2 hf
        refine lv_aload_n hx hb dX5_bestSet_10 rfl (lv_at hl 0 rfl) ?_
        refine va_get (D := D) (ci := 5) (v := .int g_bestPart) (C := RX5) (T := TX5) (N := 8) hx hb hts z1 hown hN.1 hP 0 rfl rfl 5 (by decide) z2 (fun _ h9 => h9) rfl dX5_bestSet_11 ?_
        refine lv_iload_n hx hb dX5_bestSet_14 rfl (lv_at hl 2 rfl) ?_
        refine lv_iushr hx hb dX5_bestSet_15 rfl ?_
        refine lv_iconst (v := 1) hx hb dX5_bestSet_16 (by decide) ?_
        refine lv_iand hx hb dX5_bestSet_17 ?_
        refine lv_if_eq (tgt := 32) hx hb dX5_bestSet_18 (by decide) (fun c3 => ?_) (fun c3 => ?_)
        · have hf := br_pos c3 hf
          exact w32 x1 x3 _ H locs ls hf hF hP hD hS (lv_sub hl [0, 1, 2] rfl)
        · have hf := br_neg c3 hf
          refine lv_lload_n hx hb dX5_bestSet_21 rfl (lv_at hl 1 rfl) ?_
          refine lv_lconst (v := 1) hx hb dX5_bestSet_22 (by decide) ?_
          refine lv_aload_n hx hb dX5_bestSet_23 rfl (lv_at hl 0 rfl) ?_
          refine va_get (D := D) (ci := 5) (v := .ref a_numbers) (C := RX5) (T := TX5) (N := 8) hx hb hts z1 hown hN.1 hP 0 rfl rfl 0 (by decide) z3 (fun _ h9 => h9) rfl dX5_bestSet_24 ?_
          refine lv_iload_n hx hb dX5_bestSet_27 rfl (lv_at hl 2 rfl) ?_
          obtain ⟨c4, hf⟩ := gd_some hf
          refine va_iald hx hb hN.1 hP 1 0 rfl rfl (ix_in c4) dX5_bestSet_28 ?_
          refine lv_lshl hx hb dX5_bestSet_29 rfl ?_
          refine lv_lor hx hb dX5_bestSet_30 ?_
          refine lv_topl (fun y5 ey5 => ?_)
          have hf := lt_some hf y5 ey5
          refine lv_lstore_n (lv' := [(1, .long y5), (0, .ref a_this), (3, .int x3)]) hx hb dX5_bestSet_31 rfl hl (by decide) rfl (fun ls hl => ?_)
          exact w32 y5 x3 _ H locs ls hf hF hP hD hS (lv_sub hl [1, 0, 2] rfl)
    intro x1 x3 t H locs ls hf hF hP hD hS hl
    exact ((congrFun eF4 _).mp (key ((x1, x3)) t hf hF)) H locs ls hP hD hS hl
  unfold fX5_bestSet at hf
  obtain ⟨H, eH⟩ : ∃ z, z = s.heap := ⟨_, rfl⟩
  obtain ⟨locs, eL⟩ : ∃ z : List Loc, z = [] := ⟨_, rfl⟩
  have hP : va_P D vwCl [(a_this, .inr (5, [.ref a_numbers, .ref a_low, .ref a_high, .long g_whole, .long g_added, .int g_bestPart, .int g_bestSums, .int g_bestSize])), (a_numbers, .inl (cI, 12, .inl g_numbers))] H := by rw [eH]; exact hP
  have hS : va_S A s.heap H locs := by rw [eH, eL]; exact hS
  suffices hG : W p l e rmX5_bestSet s m ([.ref a_this] : List Value).toArray below meth c H locs 0 0 (MQ below (cQl D r0 A [(a_this, .inr (5, [.ref a_numbers, .ref a_low, .ref a_high, .long g_whole, .long g_added, .int g_bestPart, .int g_bestSums, .int g_bestSize])), (a_numbers, .inl (cI, 12, .inl g_numbers))]) ([.ref a_this] : List Value).toArray s 0 0 A) (F0 m 0 ls []) by rw [eH, eL] at hG; exact hG
  refine lv_lconst (v := 0) hx hb dX5_bestSet_0 (by decide) ?_
  refine lv_lstore_n (lv' := [(1, .long (0 : Int64)), (0, .ref a_this)]) hx hb dX5_bestSet_1 rfl hl (by decide) rfl (fun ls hl => ?_)
  refine lv_iconst (v := 0) hx hb dX5_bestSet_2 (by decide) ?_
  refine lv_istore_n (lv' := [(3, .int (0 : Int32)), (1, .long (0 : Int64)), (0, .ref a_this)]) hx hb dX5_bestSet_3 rfl hl (by decide) rfl (fun ls hl => ?_)
  exact w4 g_bestPart g_numbers (0 : Int64) (0 : Int32) r0 H locs ls hf rfl hP hD hS (lv_sub hl [2, 1, 0] rfl)
abbrev rmX6_become : Room := { frames := 1, cells := 0, slots := 0, locals := 24 }
noncomputable def fX6_become (q1 : Int64) (g_words : Nat → Int64) : Option (Nat → Int64) := bd (fJ7_fill_d0a16 (0 : Int64) 4 g_words) (fun u1 => gd (¬ (0 : Int32) < 0 ∧ (0 : Int32).toNatClampNeg < 4) (lt_ (vp_updL u1 (0 : Int32).toNatClampNeg q1) (fun y3 => some (y3))))
set_option maxHeartbeats 4000000 in
set_option maxRecDepth 100000 in
theorem cX6_become_ct (l : Launch) (D : va_G) (cI cL cC cZ : ClassId) (a_this a_words : Nat) (g_words : Nat → Int64) (q1 : Int64) (v_words : Nat → Int64) (hf : fX6_become q1 g_words = some v_words) : CtV l yX6_become wsX6_become rmX6_become D (tyz cI cL cC cZ) [.ref a_this, .long q1] [(a_this, .inr (6, [.ref a_words])), (a_words, .inl (cL, 4, .inr (.inl g_words)))] [(a_this, .inr (6, [.ref a_words])), (a_words, .inl (cL, 4, .inr (.inl v_words)))] := by
  refine CtV.make (cc := cX6_become) (maxL := 3) (by decide) rfl (Nat.le_of_ble_eq_true rfl) ?_
  intro p e s m below meth c A ls C0 hN hA hP hD hl
  obtain ⟨hx, hb, hr, hml, hown, hts, hlk⟩ := id C0
  have hown : s.vm.findClass RX6 = some m.cls := hown
  have hS : va_S A s.heap s.heap [] := va_S.rf
  have hP : va_P D vwCl [(a_this, .inr (6, [.ref a_words])), (a_words, .inl (cL, 4, .inr (.inl g_words)))] s.heap := hP
  have hD : va_D A [(a_this, .inr (6, [.ref a_words])), (a_words, .inl (cL, 4, .inr (.inl g_words)))] := hD
  have hl : lv_has ls 3 [(0, .ref a_this), (1, .long q1)] := hl
  have z1 : ∀ w ∈ u_ws RX6 TX6 1, w ∈ wsX6_become := by decide +kernel
  have z2 := hts (.fieldLink RX6 11 "LittleSums$Wide" "words" "[J") (by decide +kernel)
  have z3 := va_cwS (R := rmX6_become) (rm := rmJ7_fill_d0a16) (mc := 0) (ms := 0) 2 hts gX6_become_J7_fill_d0a16 rfl rfl rfl (by decide +kernel) ⟨Nat.le_of_ble_eq_true rfl, Nat.le_of_ble_eq_true rfl⟩
  unfold fX6_become at hf
  obtain ⟨H, eH⟩ : ∃ z, z = s.heap := ⟨_, rfl⟩
  obtain ⟨locs, eL⟩ : ∃ z : List Loc, z = [] := ⟨_, rfl⟩
  have hP : va_P D vwCl [(a_this, .inr (6, [.ref a_words])), (a_words, .inl (cL, 4, .inr (.inl g_words)))] H := by rw [eH]; exact hP
  have hS : va_S A s.heap H locs := by rw [eH, eL]; exact hS
  suffices hG : W p l e rmX6_become s m ([.ref a_this, .long q1] : List Value).toArray below meth c H locs 0 0 (MQ below (cQv D A [(a_this, .inr (6, [.ref a_words])), (a_words, .inl (cL, 4, .inr (.inl v_words)))]) ([.ref a_this, .long q1] : List Value).toArray s 0 0 A) (F0 m 0 ls []) by rw [eH, eL] at hG; exact hG
  refine lv_aload_n hx hb dX6_become_0 rfl (lv_at hl 0 rfl) ?_
  refine va_get (D := D) (ci := 6) (v := .ref a_words) (C := RX6) (T := TX6) (N := 1) hx hb hts z1 hown hN.1 hP 0 rfl rfl 0 (by decide) z2 (fun _ h9 => h9) rfl dX6_become_1 ?_
  refine lv_lconst (v := 0) hx hb dX6_become_4 (by decide) ?_
  obtain ⟨u1, hu1, hf⟩ := bd_some hf
  refine caSV (rest := []) (As := [.ref a_words, .long (0 : Int64)]) (wr := [(a_this, .inr (6, [.ref a_words]))]) (wo := [(a_this, .inr (6, [.ref a_words])), (a_words, .inl (cL, 4, .inr (.inl u1)))]) ⟨hx, hb, hml, hown, hts⟩ hN hP hD hS hA (cJ7_fill_d0a16_ct l D cI cL cC cZ a_words 4 g_words (0 : Int64) u1 hu1) z3 [1] [0] [0, 1] rfl (by decide) rfl (by decide) (by decide) rfl (by decide) rfl hl.1 rfl (Nat.le_of_ble_eq_true rfl) dX6_become_5 ⟨Nat.zero_le _, Nat.zero_le _⟩ (fun H locs hP hD hS => ?_)
  refine lv_aload_n hx hb dX6_become_8 rfl (lv_at hl 0 rfl) ?_
  refine va_get (D := D) (ci := 6) (v := .ref a_words) (C := RX6) (T := TX6) (N := 1) hx hb hts z1 hown hN.1 hP 0 rfl rfl 0 (by decide) z2 (fun _ h9 => h9) rfl dX6_become_9 ?_
  refine lv_iconst (v := 0) hx hb dX6_become_12 (by decide) ?_
  refine lv_lload_n hx hb dX6_become_13 rfl (lv_at hl 1 rfl) ?_
  obtain ⟨c2, hf⟩ := gd_some hf
  refine va_last hx hb hN.1 hP hD hS 1 1 rfl rfl (ix_in c2) dX6_become_14 (fun H locs hP hD hS => ?_)
  obtain ⟨y3, ey3⟩ : ∃ z, z = vp_updL u1 (0 : Int32).toNatClampNeg q1 := ⟨_, rfl⟩
  have hf := lt_some hf y3 ey3
  have hP : va_P D vwCl [(a_this, .inr (6, [.ref a_words])), (a_words, .inl (cL, 4, .inr (.inl y3)))] H := by rw [ey3]; exact hP
  have hD : va_D A [(a_this, .inr (6, [.ref a_words])), (a_words, .inl (cL, 4, .inr (.inl y3)))] := by rw [ey3]; exact hD
  have hE : y3 = v_words := Option.some.inj hf
  subst hE
  exact rtV hx hb hr hlk hP hD hS dX6_become_15
abbrev rmX6_becomeLike : Room := { frames := 1, cells := 0, slots := 0, locals := 64 }
noncomputable def fX6_becomeLike (g_words : Nat → Int64) (g_p1_words : Nat → Int64) : Option (Nat → Int64) := lt_ (va_cpy g_p1_words g_words (0 : Int32).toNatClampNeg (0 : Int32).toNatClampNeg (4 : Int32).toNatClampNeg) (fun y1 => some (y1))
set_option maxHeartbeats 4000000 in
set_option maxRecDepth 100000 in
theorem cX6_becomeLike_ct (l : Launch) (D : va_G) (cI cL cC cZ : ClassId) (a_this a_p1 a_words a_p1_words : Nat) (g_words : Nat → Int64) (g_p1_words : Nat → Int64) (v_words : Nat → Int64) (hf : fX6_becomeLike g_words g_p1_words = some v_words) : CtV l yX6_becomeLike wsX6_becomeLike rmX6_becomeLike D (tyz cI cL cC cZ) [.ref a_this, .ref a_p1] [(a_this, .inr (6, [.ref a_words])), (a_words, .inl (cL, 4, .inr (.inl g_words))), (a_p1, .inr (6, [.ref a_p1_words])), (a_p1_words, .inl (cL, 4, .inr (.inl g_p1_words)))] [(a_this, .inr (6, [.ref a_words])), (a_words, .inl (cL, 4, .inr (.inl v_words))), (a_p1, .inr (6, [.ref a_p1_words])), (a_p1_words, .inl (cL, 4, .inr (.inl g_p1_words)))] := by
  refine CtV.make (cc := cX6_becomeLike) (maxL := 2) (by decide) rfl (Nat.le_of_ble_eq_true rfl) ?_
  intro p e s m below meth c A ls C0 hN hA hP hD hl
  obtain ⟨hx, hb, hr, hml, hown, hts, hlk⟩ := id C0
  have hown : s.vm.findClass RX6 = some m.cls := hown
  have hS : va_S A s.heap s.heap [] := va_S.rf
  have hP : va_P D vwCl [(a_this, .inr (6, [.ref a_words])), (a_words, .inl (cL, 4, .inr (.inl g_words))), (a_p1, .inr (6, [.ref a_p1_words])), (a_p1_words, .inl (cL, 4, .inr (.inl g_p1_words)))] s.heap := hP
  have hD : va_D A [(a_this, .inr (6, [.ref a_words])), (a_words, .inl (cL, 4, .inr (.inl g_words))), (a_p1, .inr (6, [.ref a_p1_words])), (a_p1_words, .inl (cL, 4, .inr (.inl g_p1_words)))] := hD
  have hl : lv_has ls 2 [(0, .ref a_this), (1, .ref a_p1)] := hl
  have z1 : ∀ w ∈ u_ws RX6 TX6 1, w ∈ wsX6_becomeLike := by decide +kernel
  have z2 := hts (.fieldLink RX6 11 "LittleSums$Wide" "words" "[J") (by decide +kernel)
  have z3 := hts (.methodLink RX6 21 arraycopyName) (by decide +kernel)
  have z4 := hts (.native arraycopyName) (by decide +kernel)
  have z5 := hts (.static arraycopyName) (by decide +kernel)
  have z6 := hts (.initialized "java/lang/System") (by decide +kernel)
  unfold fX6_becomeLike at hf
  obtain ⟨H, eH⟩ : ∃ z, z = s.heap := ⟨_, rfl⟩
  obtain ⟨locs, eL⟩ : ∃ z : List Loc, z = [] := ⟨_, rfl⟩
  have hP : va_P D vwCl [(a_this, .inr (6, [.ref a_words])), (a_words, .inl (cL, 4, .inr (.inl g_words))), (a_p1, .inr (6, [.ref a_p1_words])), (a_p1_words, .inl (cL, 4, .inr (.inl g_p1_words)))] H := by rw [eH]; exact hP
  have hS : va_S A s.heap H locs := by rw [eH, eL]; exact hS
  suffices hG : W p l e rmX6_becomeLike s m ([.ref a_this, .ref a_p1] : List Value).toArray below meth c H locs 0 0 (MQ below (cQv D A [(a_this, .inr (6, [.ref a_words])), (a_words, .inl (cL, 4, .inr (.inl v_words))), (a_p1, .inr (6, [.ref a_p1_words])), (a_p1_words, .inl (cL, 4, .inr (.inl g_p1_words)))]) ([.ref a_this, .ref a_p1] : List Value).toArray s 0 0 A) (F0 m 0 ls []) by rw [eH, eL] at hG; exact hG
  refine lv_aload_n hx hb dX6_becomeLike_0 rfl (lv_at hl 1 rfl) ?_
  refine va_get (D := D) (ci := 6) (v := .ref a_p1_words) (C := RX6) (T := TX6) (N := 1) hx hb hts z1 hown hN.1 hP 2 rfl rfl 0 (by decide) z2 (fun _ h9 => h9) rfl dX6_becomeLike_1 ?_
  refine lv_iconst (v := 0) hx hb dX6_becomeLike_4 (by decide) ?_
  refine lv_aload_n hx hb dX6_becomeLike_5 rfl (lv_at hl 0 rfl) ?_
  refine va_get (D := D) (ci := 6) (v := .ref a_words) (C := RX6) (T := TX6) (N := 1) hx hb hts z1 hown hN.1 hP 0 rfl rfl 0 (by decide) z2 (fun _ h9 => h9) rfl dX6_becomeLike_6 ?_
  refine lv_iconst (v := 0) hx hb dX6_becomeLike_9 (by decide) ?_
  refine lv_iconst (v := 4) hx hb dX6_becomeLike_10 (by decide) ?_
  refine va_copyl (ty := .long) hx hb (by rw [hml]; exact hl.1.symm) hown z3 z4 z5 z6 hN.1 hP hD hS 3 1 1 1 rfl rfl rfl rfl rfl (by decide) (by decide) (by decide) (by decide) (by decide) (fun _ _ => rfl) (Nat.le_of_ble_eq_true rfl) (by decide) dX6_becomeLike_11 (fun H locs hP hD hS => ?_)
  obtain ⟨y1, ey1⟩ : ∃ z, z = va_cpy g_p1_words g_words (0 : Int32).toNatClampNeg (0 : Int32).toNatClampNeg (4 : Int32).toNatClampNeg := ⟨_, rfl⟩
  have hf := lt_some hf y1 ey1
  have hP : va_P D vwCl [(a_this, .inr (6, [.ref a_words])), (a_words, .inl (cL, 4, .inr (.inl y1))), (a_p1, .inr (6, [.ref a_p1_words])), (a_p1_words, .inl (cL, 4, .inr (.inl g_p1_words)))] H := by rw [ey1]; exact hP
  have hD : va_D A [(a_this, .inr (6, [.ref a_words])), (a_words, .inl (cL, 4, .inr (.inl y1))), (a_p1, .inr (6, [.ref a_p1_words])), (a_p1_words, .inl (cL, 4, .inr (.inl g_p1_words)))] := by rw [ey1]; exact hD
  have hE : y1 = v_words := Option.some.inj hf
  subst hE
  exact rtV hx hb hr hlk hP hD hS dX6_becomeLike_14
abbrev rmX6_addMoved : Room := { frames := 1, cells := 0, slots := 0, locals := 22 }
noncomputable def bX6_addMoved_19 (x2 : Int32) (g_p1_words : Nat → Int64) (x3 : Int32) (g_words : Nat → Int64) : Option ((Int32 × (Nat → Int64)) ⊕ (Nat → Int64)) := br ((4 : Int32) ≤ x3) (some (Sum.inr (g_words))) (gd (¬ x3 < 0 ∧ x3.toNatClampNeg < 4) (gd (¬ x3 < 0 ∧ x3.toNatClampNeg < 4) (gd (¬ (x3 - (1 : Int32)) < 0 ∧ (x3 - (1 : Int32)).toNatClampNeg < 4) (bd (fX6_carried (g_p1_words (x3 - (1 : Int32)).toNatClampNeg) x2) (fun u5 => lt_ ((g_words x3.toNatClampNeg) ||| (((g_p1_words x3.toNatClampNeg) <<< (x2.toInt64 &&& 63)) ||| u5)) (fun y6 => gd (¬ x3 < 0 ∧ x3.toNatClampNeg < 4) (lt_ (vp_updL g_words x3.toNatClampNeg y6) (fun y8 => lt_ (x3 + (1 : Int32)) (fun y9 => some (Sum.inl ((y9, y8))))))))))))
noncomputable def sX6_addMoved_19 (x2 : Int32) (g_p1_words : Nat → Int64) : (Int32 × (Nat → Int64)) → Option ((Int32 × (Nat → Int64)) ⊕ (Nat → Int64)) := fun q => bX6_addMoved_19 x2 g_p1_words q.1 q.2
noncomputable def fX6_addMoved (q2 : Int32) (g_words : Nat → Int64) (g_p1_words : Nat → Int64) : Option (Nat → Int64) := gd (¬ (0 : Int32) < 0 ∧ (0 : Int32).toNatClampNeg < 4) (gd (¬ (0 : Int32) < 0 ∧ (0 : Int32).toNatClampNeg < 4) (lt_ ((g_words (0 : Int32).toNatClampNeg) ||| ((g_p1_words (0 : Int32).toNatClampNeg) <<< (q2.toInt64 &&& 63))) (fun y12 => gd (¬ (0 : Int32) < 0 ∧ (0 : Int32).toNatClampNeg < 4) (lt_ (vp_updL g_words (0 : Int32).toNatClampNeg y12) (fun y14 => run (sX6_addMoved_19 q2 g_p1_words) (((1 : Int32), y14)))))))
set_option maxHeartbeats 4000000 in
set_option maxRecDepth 100000 in
theorem cX6_addMoved_ct (l : Launch) (D : va_G) (cI cL cC cZ : ClassId) (a_this a_p1 a_words a_p1_words : Nat) (g_words : Nat → Int64) (g_p1_words : Nat → Int64) (q2 : Int32) (v_words : Nat → Int64) (hf : fX6_addMoved q2 g_words g_p1_words = some v_words) : CtV l yX6_addMoved wsX6_addMoved rmX6_addMoved D (tyz cI cL cC cZ) [.ref a_this, .ref a_p1, .int q2] [(a_this, .inr (6, [.ref a_words])), (a_words, .inl (cL, 4, .inr (.inl g_words))), (a_p1, .inr (6, [.ref a_p1_words])), (a_p1_words, .inl (cL, 4, .inr (.inl g_p1_words)))] [(a_this, .inr (6, [.ref a_words])), (a_words, .inl (cL, 4, .inr (.inl v_words))), (a_p1, .inr (6, [.ref a_p1_words])), (a_p1_words, .inl (cL, 4, .inr (.inl g_p1_words)))] := by
  refine CtV.make (cc := cX6_addMoved) (maxL := 4) (by decide) rfl (Nat.le_of_ble_eq_true rfl) ?_
  intro p e s m below meth c A ls C0 hN hA hP hD hl
  obtain ⟨hx, hb, hr, hml, hown, hts, hlk⟩ := id C0
  have hown : s.vm.findClass RX6 = some m.cls := hown
  have hS : va_S A s.heap s.heap [] := va_S.rf
  have hP : va_P D vwCl [(a_this, .inr (6, [.ref a_words])), (a_words, .inl (cL, 4, .inr (.inl g_words))), (a_p1, .inr (6, [.ref a_p1_words])), (a_p1_words, .inl (cL, 4, .inr (.inl g_p1_words)))] s.heap := hP
  have hD : va_D A [(a_this, .inr (6, [.ref a_words])), (a_words, .inl (cL, 4, .inr (.inl g_words))), (a_p1, .inr (6, [.ref a_p1_words])), (a_p1_words, .inl (cL, 4, .inr (.inl g_p1_words)))] := hD
  have hl : lv_has ls 4 [(0, .ref a_this), (1, .ref a_p1), (2, .int q2)] := hl
  have z1 : ∀ w ∈ u_ws RX6 TX6 1, w ∈ wsX6_addMoved := by decide +kernel
  have z2 := hts (.fieldLink RX6 11 "LittleSums$Wide" "words" "[J") (by decide +kernel)
  have z3 := va_cwS (R := rmX6_addMoved) (rm := rmX6_carried) (mc := 0) (ms := 0) 2 hts gX6_addMoved_X6_carried rfl rfl rfl (by decide +kernel) ⟨Nat.le_of_ble_eq_true rfl, Nat.le_of_ble_eq_true rfl⟩
  have w19 : ∀ (x2 : Int32) (g_p1_words : Nat → Int64) (x3 : Int32) (g_words : Nat → Int64) (t : Nat → Int64) (H : Heap) (locs : List Loc) (ls : Array Slot), run (sX6_addMoved_19 x2 g_p1_words) ((x3, g_words)) = some t → (fun z => z = v_words) t → va_P D vwCl [(a_this, .inr (6, [.ref a_words])), (a_words, .inl (cL, 4, .inr (.inl g_words))), (a_p1, .inr (6, [.ref a_p1_words])), (a_p1_words, .inl (cL, 4, .inr (.inl g_p1_words)))] H → va_D A [(a_this, .inr (6, [.ref a_words])), (a_words, .inl (cL, 4, .inr (.inl g_words))), (a_p1, .inr (6, [.ref a_p1_words])), (a_p1_words, .inl (cL, 4, .inr (.inl g_p1_words)))] → va_S A s.heap H locs → lv_has ls 4 [(0, .ref a_this), (1, .ref a_p1), (2, .int x2), (3, .int x3)] → W p l e rmX6_addMoved s m ([.ref a_this, .ref a_p1, .int q2] : List Value).toArray below meth c H locs 0 0 (MQ below (cQv D A [(a_this, .inr (6, [.ref a_words])), (a_words, .inl (cL, 4, .inr (.inl v_words))), (a_p1, .inr (6, [.ref a_p1_words])), (a_p1_words, .inl (cL, 4, .inr (.inl g_p1_words)))]) ([.ref a_this, .ref a_p1, .int q2] : List Value).toArray s 0 0 A) (F0 m 19 ls []) := by
    intro x2 g_p1_words
    obtain ⟨F19, eF19⟩ : ∃ F : (Int32 × (Nat → Int64)) → Prop, F = fun q => ∀ (H : Heap) (locs : List Loc) (ls : Array Slot), va_P D vwCl [(a_this, .inr (6, [.ref a_words])), (a_words, .inl (cL, 4, .inr (.inl q.2))), (a_p1, .inr (6, [.ref a_p1_words])), (a_p1_words, .inl (cL, 4, .inr (.inl g_p1_words)))] H → va_D A [(a_this, .inr (6, [.ref a_words])), (a_words, .inl (cL, 4, .inr (.inl q.2))), (a_p1, .inr (6, [.ref a_p1_words])), (a_p1_words, .inl (cL, 4, .inr (.inl g_p1_words)))] → va_S A s.heap H locs → lv_has ls 4 [(0, .ref a_this), (1, .ref a_p1), (2, .int x2), (3, .int q.1)] → W p l e rmX6_addMoved s m ([.ref a_this, .ref a_p1, .int q2] : List Value).toArray below meth c H locs 0 0 (MQ below (cQv D A [(a_this, .inr (6, [.ref a_words])), (a_words, .inl (cL, 4, .inr (.inl v_words))), (a_p1, .inr (6, [.ref a_p1_words])), (a_p1_words, .inl (cL, 4, .inr (.inl g_p1_words)))]) ([.ref a_this, .ref a_p1, .int q2] : List Value).toArray s 0 0 A) (F0 m 19 ls []) := ⟨_, rfl⟩
    have key : ∀ (q : Int32 × (Nat → Int64)) (t : Nat → Int64), run (sX6_addMoved_19 x2 g_p1_words) q = some t → (fun z => z = v_words) t → F19 q := by
      refine loop_rule (sX6_addMoved_19 x2 g_p1_words) F19 (fun z => z = v_words) ?_
      intro q t hf hF
      have hF : (Sum.elim F19 (fun z => z = v_words)) t := hF
      rw [eF19]
      obtain ⟨x3, g_words⟩ := q
      intro H locs ls hP hD hS hl
      have hP : va_P D vwCl [(a_this, .inr (6, [.ref a_words])), (a_words, .inl (cL, 4, .inr (.inl g_words))), (a_p1, .inr (6, [.ref a_p1_words])), (a_p1_words, .inl (cL, 4, .inr (.inl g_p1_words)))] H := hP
      have hD : va_D A [(a_this, .inr (6, [.ref a_words])), (a_words, .inl (cL, 4, .inr (.inl g_words))), (a_p1, .inr (6, [.ref a_p1_words])), (a_p1_words, .inl (cL, 4, .inr (.inl g_p1_words)))] := hD
      have hl : lv_has ls 4 [(0, .ref a_this), (1, .ref a_p1), (2, .int x2), (3, .int x3)] := hl
      have hf : bX6_addMoved_19 x2 g_p1_words x3 g_words = some t := hf
      unfold bX6_addMoved_19 at hf
      refine lv_iload_n hx hb dX6_addMoved_19 rfl (lv_at hl 3 rfl) ?_
      refine lv_iconst (v := 4) hx hb dX6_addMoved_20 (by decide) ?_
      refine lv_icmp_ge (tgt := 60) hx hb dX6_addMoved_21 (by decide) (fun c1 => ?_) (fun c1 => ?_)
      · have hf := br_pos c1 hf
        cases hf
        have hE : g_words = v_words := hF
        subst hE
        exact rtV hx hb hr hlk hP hD hS dX6_addMoved_60
      · have hf := br_neg c1 hf
        refine lv_aload_n hx hb dX6_addMoved_24 rfl (lv_at hl 0 rfl) ?_
        refine va_get (D := D) (ci := 6) (v := .ref a_words) (C := RX6) (T := TX6) (N := 1) hx hb hts z1 hown hN.1 hP 0 rfl rfl 0 (by decide) z2 (fun _ h9 => h9) rfl dX6_addMoved_25 ?_
        refine lv_iload_n hx hb dX6_addMoved_28 rfl (lv_at hl 3 rfl) ?_
        refine lv_dup2_11 hx hb dX6_addMoved_29 rfl rfl ?_
        obtain ⟨c2, hf⟩ := gd_some hf
        refine va_lald hx hb hN.1 hP 1 1 rfl rfl (ix_in c2) dX6_addMoved_30 ?_
        refine lv_aload_n hx hb dX6_addMoved_31 rfl (lv_at hl 1 rfl) ?_
        refine va_get (D := D) (ci := 6) (v := .ref a_p1_words) (C := RX6) (T := TX6) (N := 1) hx hb hts z1 hown hN.1 hP 2 rfl rfl 0 (by decide) z2 (fun _ h9 => h9) rfl dX6_addMoved_32 ?_
        refine lv_iload_n hx hb dX6_addMoved_35 rfl (lv_at hl 3 rfl) ?_
        obtain ⟨c3, hf⟩ := gd_some hf
        refine va_lald hx hb hN.1 hP 3 1 rfl rfl (ix_in c3) dX6_addMoved_36 ?_
        refine lv_iload_n hx hb dX6_addMoved_37 rfl (lv_at hl 2 rfl) ?_
        refine lv_lshl hx hb dX6_addMoved_38 rfl ?_
        refine lv_aload_n hx hb dX6_addMoved_39 rfl (lv_at hl 1 rfl) ?_
        refine va_get (D := D) (ci := 6) (v := .ref a_p1_words) (C := RX6) (T := TX6) (N := 1) hx hb hts z1 hown hN.1 hP 2 rfl rfl 0 (by decide) z2 (fun _ h9 => h9) rfl dX6_addMoved_40 ?_
        refine lv_iload_n hx hb dX6_addMoved_43 rfl (lv_at hl 3 rfl) ?_
        refine lv_iconst (v := 1) hx hb dX6_addMoved_44 (by decide) ?_
        refine lv_isub hx hb dX6_addMoved_45 ?_
        obtain ⟨c4, hf⟩ := gd_some hf
        refine va_lald hx hb hN.1 hP 3 1 rfl rfl (ix_in c4) dX6_addMoved_46 ?_
        refine lv_iload_n hx hb dX6_addMoved_47 rfl (lv_at hl 2 rfl) ?_
        obtain ⟨u5, hu5, hf⟩ := bd_some hf
        refine caSL (rest := [.long ((g_p1_words x3.toNatClampNeg) <<< (x2.toInt64 &&& 63)), .long (g_words x3.toNatClampNeg), .int x3, .ref a_words]) (As := [.long (g_p1_words (x3 - (1 : Int32)).toNatClampNeg), .int x2]) (wr := [(a_this, .inr (6, [.ref a_words])), (a_words, .inl (cL, 4, .inr (.inl g_words))), (a_p1, .inr (6, [.ref a_p1_words])), (a_p1_words, .inl (cL, 4, .inr (.inl g_p1_words)))]) (wo := [(a_this, .inr (6, [.ref a_words])), (a_words, .inl (cL, 4, .inr (.inl g_words))), (a_p1, .inr (6, [.ref a_p1_words])), (a_p1_words, .inl (cL, 4, .inr (.inl g_p1_words)))]) ⟨hx, hb, hml, hown, hts⟩ hN hP hD hS hA (cX6_carried_ct l D cI cL cC cZ (g_p1_words (x3 - (1 : Int32)).toNatClampNeg) x2 u5 hu5) z3 [] [0, 1, 2, 3] [0, 1, 2, 3] rfl (by decide) rfl (by decide) (by decide) rfl (by decide) rfl hl.1 rfl (Nat.le_of_ble_eq_true rfl) dX6_addMoved_48 ⟨Nat.zero_le _, Nat.zero_le _⟩ (fun H locs hP hD hS => ?_)
        refine lv_lor hx hb dX6_addMoved_51 ?_
        refine lv_lor hx hb dX6_addMoved_52 ?_
        refine lv_topl (fun y6 ey6 => ?_)
        have hf := lt_some hf y6 ey6
        obtain ⟨c7, hf⟩ := gd_some hf
        refine va_last hx hb hN.1 hP hD hS 1 1 rfl rfl (ix_in c7) dX6_addMoved_53 (fun H locs hP hD hS => ?_)
        obtain ⟨y8, ey8⟩ : ∃ z, z = vp_updL g_words x3.toNatClampNeg y6 := ⟨_, rfl⟩
        have hf := lt_some hf y8 ey8
        have hP : va_P D vwCl [(a_this, .inr (6, [.ref a_words])), (a_words, .inl (cL, 4, .inr (.inl y8))), (a_p1, .inr (6, [.ref a_p1_words])), (a_p1_words, .inl (cL, 4, .inr (.inl g_p1_words)))] H := by rw [ey8]; exact hP
        have hD : va_D A [(a_this, .inr (6, [.ref a_words])), (a_words, .inl (cL, 4, .inr (.inl y8))), (a_p1, .inr (6, [.ref a_p1_words])), (a_p1_words, .inl (cL, 4, .inr (.inl g_p1_words)))] := by rw [ey8]; exact hD
        obtain ⟨y9, ey9⟩ : ∃ z : Int32, z = x3 + (1 : Int32) := ⟨_, rfl⟩
        have hf := lt_some hf y9 ey9
        refine lv_iinc (v := y9) (lv' := [(3, .int y9), (0, .ref a_this), (1, .ref a_p1), (2, .int x2)]) hx hb dX6_addMoved_54 hl (k := 3) rfl (by rw [ey9]; rfl) (by decide) rfl (fun ls hl => ?_)
        refine lv_goto (tgt := 19) hx hb dX6_addMoved_57 (by decide) ?_
        cases hf
        exact ((congrFun eF19 _).mp hF) H locs ls hP hD hS (lv_sub hl [1, 2, 3, 0] rfl)
    intro x3 g_words t H locs ls hf hF hP hD hS hl
    exact ((congrFun eF19 _).mp (key ((x3, g_words)) t hf hF)) H locs ls hP hD hS hl
  unfold fX6_addMoved at hf
  obtain ⟨H, eH⟩ : ∃ z, z = s.heap := ⟨_, rfl⟩
  obtain ⟨locs, eL⟩ : ∃ z : List Loc, z = [] := ⟨_, rfl⟩
  have hP : va_P D vwCl [(a_this, .inr (6, [.ref a_words])), (a_words, .inl (cL, 4, .inr (.inl g_words))), (a_p1, .inr (6, [.ref a_p1_words])), (a_p1_words, .inl (cL, 4, .inr (.inl g_p1_words)))] H := by rw [eH]; exact hP
  have hS : va_S A s.heap H locs := by rw [eH, eL]; exact hS
  suffices hG : W p l e rmX6_addMoved s m ([.ref a_this, .ref a_p1, .int q2] : List Value).toArray below meth c H locs 0 0 (MQ below (cQv D A [(a_this, .inr (6, [.ref a_words])), (a_words, .inl (cL, 4, .inr (.inl v_words))), (a_p1, .inr (6, [.ref a_p1_words])), (a_p1_words, .inl (cL, 4, .inr (.inl g_p1_words)))]) ([.ref a_this, .ref a_p1, .int q2] : List Value).toArray s 0 0 A) (F0 m 0 ls []) by rw [eH, eL] at hG; exact hG
  refine lv_aload_n hx hb dX6_addMoved_0 rfl (lv_at hl 0 rfl) ?_
  refine va_get (D := D) (ci := 6) (v := .ref a_words) (C := RX6) (T := TX6) (N := 1) hx hb hts z1 hown hN.1 hP 0 rfl rfl 0 (by decide) z2 (fun _ h9 => h9) rfl dX6_addMoved_1 ?_
  refine lv_iconst (v := 0) hx hb dX6_addMoved_4 (by decide) ?_
  refine lv_dup2_11 hx hb dX6_addMoved_5 rfl rfl ?_
  obtain ⟨c10, hf⟩ := gd_some hf
  refine va_lald hx hb hN.1 hP 1 1 rfl rfl (ix_in c10) dX6_addMoved_6 ?_
  refine lv_aload_n hx hb dX6_addMoved_7 rfl (lv_at hl 1 rfl) ?_
  refine va_get (D := D) (ci := 6) (v := .ref a_p1_words) (C := RX6) (T := TX6) (N := 1) hx hb hts z1 hown hN.1 hP 2 rfl rfl 0 (by decide) z2 (fun _ h9 => h9) rfl dX6_addMoved_8 ?_
  refine lv_iconst (v := 0) hx hb dX6_addMoved_11 (by decide) ?_
  obtain ⟨c11, hf⟩ := gd_some hf
  refine va_lald hx hb hN.1 hP 3 1 rfl rfl (ix_in c11) dX6_addMoved_12 ?_
  refine lv_iload_n hx hb dX6_addMoved_13 rfl (lv_at hl 2 rfl) ?_
  refine lv_lshl hx hb dX6_addMoved_14 rfl ?_
  refine lv_lor hx hb dX6_addMoved_15 ?_
  refine lv_topl (fun y12 ey12 => ?_)
  have hf := lt_some hf y12 ey12
  obtain ⟨c13, hf⟩ := gd_some hf
  refine va_last hx hb hN.1 hP hD hS 1 1 rfl rfl (ix_in c13) dX6_addMoved_16 (fun H locs hP hD hS => ?_)
  obtain ⟨y14, ey14⟩ : ∃ z, z = vp_updL g_words (0 : Int32).toNatClampNeg y12 := ⟨_, rfl⟩
  have hf := lt_some hf y14 ey14
  have hP : va_P D vwCl [(a_this, .inr (6, [.ref a_words])), (a_words, .inl (cL, 4, .inr (.inl y14))), (a_p1, .inr (6, [.ref a_p1_words])), (a_p1_words, .inl (cL, 4, .inr (.inl g_p1_words)))] H := by rw [ey14]; exact hP
  have hD : va_D A [(a_this, .inr (6, [.ref a_words])), (a_words, .inl (cL, 4, .inr (.inl y14))), (a_p1, .inr (6, [.ref a_p1_words])), (a_p1_words, .inl (cL, 4, .inr (.inl g_p1_words)))] := by rw [ey14]; exact hD
  refine lv_iconst (v := 1) hx hb dX6_addMoved_17 (by decide) ?_
  refine lv_istore_n (lv' := [(3, .int (1 : Int32)), (0, .ref a_this), (1, .ref a_p1), (2, .int q2)]) hx hb dX6_addMoved_18 rfl hl (by decide) rfl (fun ls hl => ?_)
  exact w19 q2 g_p1_words (1 : Int32) y14 v_words H locs ls hf rfl hP hD hS (lv_sub hl [1, 2, 3, 0] rfl)
abbrev rmX6_becomeSumsOf : Room := { frames := 2, cells := 0, slots := 0, locals := 45 }
noncomputable def bX6_becomeSumsOf_34 (x1 : Int64) (x4 : Int32) (g_words : Nat → Int64) (g_p3_words : Nat → Int64) : Option ((Int32 × (Nat → Int64)) ⊕ (Nat → Int64)) := lt_ (x4 + (1 : Int32)) (fun y1 => some (Sum.inl ((y1, g_words))))
noncomputable def bX6_becomeSumsOf_11 (x1 : Int64) (g_p3_words : Nat → Int64) (x4 : Int32) (g_words : Nat → Int64) : Option ((Int32 × (Nat → Int64)) ⊕ (Nat → Int64)) := br ((40 : Int32) < x4) (some (Sum.inr (g_words))) (bd (fX7_has x1 x4) (fun u3 => br (u3 = 0) (bX6_becomeSumsOf_34 x1 x4 g_words g_p3_words) (bd (fX6_addMoved x4 g_words g_p3_words) (fun u5 => bX6_becomeSumsOf_34 x1 x4 u5 g_p3_words))))
noncomputable def sX6_becomeSumsOf_11 (x1 : Int64) (g_p3_words : Nat → Int64) : (Int32 × (Nat → Int64)) → Option ((Int32 × (Nat → Int64)) ⊕ (Nat → Int64)) := fun q => bX6_becomeSumsOf_11 x1 g_p3_words q.1 q.2
noncomputable def fX6_becomeSumsOf (q1 : Int64) (g_words : Nat → Int64) (g_p3_words : Nat → Int64) : Option (Nat → Int64) := bd (fJ7_fill_d0a16 (0 : Int64) 4 g_words) (fun u6 => run (sX6_becomeSumsOf_11 q1 g_p3_words) (((0 : Int32), u6)))
set_option maxHeartbeats 4000000 in
set_option maxRecDepth 100000 in
theorem cX6_becomeSumsOf_ct (l : Launch) (D : va_G) (cI cL cC cZ : ClassId) (a_this a_p3 a_words a_p3_words : Nat) (g_words : Nat → Int64) (g_p3_words : Nat → Int64) (q1 : Int64) (v_words : Nat → Int64) (hf : fX6_becomeSumsOf q1 g_words g_p3_words = some v_words) : CtV l yX6_becomeSumsOf wsX6_becomeSumsOf rmX6_becomeSumsOf D (tyz cI cL cC cZ) [.ref a_this, .long q1, .ref a_p3] [(a_this, .inr (6, [.ref a_words])), (a_words, .inl (cL, 4, .inr (.inl g_words))), (a_p3, .inr (6, [.ref a_p3_words])), (a_p3_words, .inl (cL, 4, .inr (.inl g_p3_words)))] [(a_this, .inr (6, [.ref a_words])), (a_words, .inl (cL, 4, .inr (.inl v_words))), (a_p3, .inr (6, [.ref a_p3_words])), (a_p3_words, .inl (cL, 4, .inr (.inl g_p3_words)))] := by
  refine CtV.make (cc := cX6_becomeSumsOf) (maxL := 5) (by decide) rfl (Nat.le_of_ble_eq_true rfl) ?_
  intro p e s m below meth c A ls C0 hN hA hP hD hl
  obtain ⟨hx, hb, hr, hml, hown, hts, hlk⟩ := id C0
  have hown : s.vm.findClass RX6 = some m.cls := hown
  have hS : va_S A s.heap s.heap [] := va_S.rf
  have hP : va_P D vwCl [(a_this, .inr (6, [.ref a_words])), (a_words, .inl (cL, 4, .inr (.inl g_words))), (a_p3, .inr (6, [.ref a_p3_words])), (a_p3_words, .inl (cL, 4, .inr (.inl g_p3_words)))] s.heap := hP
  have hD : va_D A [(a_this, .inr (6, [.ref a_words])), (a_words, .inl (cL, 4, .inr (.inl g_words))), (a_p3, .inr (6, [.ref a_p3_words])), (a_p3_words, .inl (cL, 4, .inr (.inl g_p3_words)))] := hD
  have hl : lv_has ls 5 [(0, .ref a_this), (1, .long q1), (3, .ref a_p3)] := hl
  have z1 := va_cnB (R := rmX6_becomeSumsOf) (rm := rmX7_has) (mc := 0) (ms := 0) 2 hts ggX6_becomeSumsOf_X7_has rfl rfl rfl (hN.2 (RX6, 27, yX7_has, "LittleSums") (by decide +kernel)) (hts (.initialized RX7) (by decide +kernel)) (by decide +kernel) ⟨Nat.le_of_ble_eq_true rfl, Nat.le_of_ble_eq_true rfl⟩
  have z2 := hts (.static yX7_has) (by decide +kernel)
  have z3 := cwV (R := rmX6_becomeSumsOf) (rm := rmX6_addMoved) (mc := 0) (ms := 0) 2 hts gX6_becomeSumsOf_X6_addMoved rfl rfl rfl (by decide +kernel) ⟨Nat.le_of_ble_eq_true rfl, Nat.le_of_ble_eq_true rfl⟩
  have z4 : ∀ w ∈ u_ws RX6 TX6 1, w ∈ wsX6_becomeSumsOf := by decide +kernel
  have z5 := hts (.fieldLink RX6 11 "LittleSums$Wide" "words" "[J") (by decide +kernel)
  have z6 := va_cwS (R := rmX6_becomeSumsOf) (rm := rmJ7_fill_d0a16) (mc := 0) (ms := 0) 2 hts gX6_becomeSumsOf_J7_fill_d0a16 rfl rfl rfl (by decide +kernel) ⟨Nat.le_of_ble_eq_true rfl, Nat.le_of_ble_eq_true rfl⟩
  have w11 : ∀ (x1 : Int64) (g_p3_words : Nat → Int64) (x4 : Int32) (g_words : Nat → Int64) (t : Nat → Int64) (H : Heap) (locs : List Loc) (ls : Array Slot), run (sX6_becomeSumsOf_11 x1 g_p3_words) ((x4, g_words)) = some t → (fun z => z = v_words) t → va_P D vwCl [(a_this, .inr (6, [.ref a_words])), (a_words, .inl (cL, 4, .inr (.inl g_words))), (a_p3, .inr (6, [.ref a_p3_words])), (a_p3_words, .inl (cL, 4, .inr (.inl g_p3_words)))] H → va_D A [(a_this, .inr (6, [.ref a_words])), (a_words, .inl (cL, 4, .inr (.inl g_words))), (a_p3, .inr (6, [.ref a_p3_words])), (a_p3_words, .inl (cL, 4, .inr (.inl g_p3_words)))] → va_S A s.heap H locs → lv_has ls 5 [(0, .ref a_this), (1, .long x1), (3, .ref a_p3), (4, .int x4)] → W p l e rmX6_becomeSumsOf s m ([.ref a_this, .long q1, .ref a_p3] : List Value).toArray below meth c H locs 0 0 (MQ below (cQv D A [(a_this, .inr (6, [.ref a_words])), (a_words, .inl (cL, 4, .inr (.inl v_words))), (a_p3, .inr (6, [.ref a_p3_words])), (a_p3_words, .inl (cL, 4, .inr (.inl g_p3_words)))]) ([.ref a_this, .long q1, .ref a_p3] : List Value).toArray s 0 0 A) (F0 m 11 ls []) := by
    intro x1 g_p3_words
    obtain ⟨F11, eF11⟩ : ∃ F : (Int32 × (Nat → Int64)) → Prop, F = fun q => ∀ (H : Heap) (locs : List Loc) (ls : Array Slot), va_P D vwCl [(a_this, .inr (6, [.ref a_words])), (a_words, .inl (cL, 4, .inr (.inl q.2))), (a_p3, .inr (6, [.ref a_p3_words])), (a_p3_words, .inl (cL, 4, .inr (.inl g_p3_words)))] H → va_D A [(a_this, .inr (6, [.ref a_words])), (a_words, .inl (cL, 4, .inr (.inl q.2))), (a_p3, .inr (6, [.ref a_p3_words])), (a_p3_words, .inl (cL, 4, .inr (.inl g_p3_words)))] → va_S A s.heap H locs → lv_has ls 5 [(0, .ref a_this), (1, .long x1), (3, .ref a_p3), (4, .int q.1)] → W p l e rmX6_becomeSumsOf s m ([.ref a_this, .long q1, .ref a_p3] : List Value).toArray below meth c H locs 0 0 (MQ below (cQv D A [(a_this, .inr (6, [.ref a_words])), (a_words, .inl (cL, 4, .inr (.inl v_words))), (a_p3, .inr (6, [.ref a_p3_words])), (a_p3_words, .inl (cL, 4, .inr (.inl g_p3_words)))]) ([.ref a_this, .long q1, .ref a_p3] : List Value).toArray s 0 0 A) (F0 m 11 ls []) := ⟨_, rfl⟩
    have key : ∀ (q : Int32 × (Nat → Int64)) (t : Nat → Int64), run (sX6_becomeSumsOf_11 x1 g_p3_words) q = some t → (fun z => z = v_words) t → F11 q := by
      refine loop_rule (sX6_becomeSumsOf_11 x1 g_p3_words) F11 (fun z => z = v_words) ?_
      intro q t hf hF
      have hF : (Sum.elim F11 (fun z => z = v_words)) t := hF
      have w34 : ∀ (x4 : Int32) (g_words : Nat → Int64) (t : (Int32 × (Nat → Int64)) ⊕ (Nat → Int64)) (H : Heap) (locs : List Loc) (ls : Array Slot), bX6_becomeSumsOf_34 x1 x4 g_words g_p3_words = some t → (Sum.elim F11 (fun z => z = v_words)) t → va_P D vwCl [(a_this, .inr (6, [.ref a_words])), (a_words, .inl (cL, 4, .inr (.inl g_words))), (a_p3, .inr (6, [.ref a_p3_words])), (a_p3_words, .inl (cL, 4, .inr (.inl g_p3_words)))] H → va_D A [(a_this, .inr (6, [.ref a_words])), (a_words, .inl (cL, 4, .inr (.inl g_words))), (a_p3, .inr (6, [.ref a_p3_words])), (a_p3_words, .inl (cL, 4, .inr (.inl g_p3_words)))] → va_S A s.heap H locs → lv_has ls 5 [(0, .ref a_this), (1, .long x1), (3, .ref a_p3), (4, .int x4)] → W p l e rmX6_becomeSumsOf s m ([.ref a_this, .long q1, .ref a_p3] : List Value).toArray below meth c H locs 0 0 (MQ below (cQv D A [(a_this, .inr (6, [.ref a_words])), (a_words, .inl (cL, 4, .inr (.inl v_words))), (a_p3, .inr (6, [.ref a_p3_words])), (a_p3_words, .inl (cL, 4, .inr (.inl g_p3_words)))]) ([.ref a_this, .long q1, .ref a_p3] : List Value).toArray s 0 0 A) (F0 m 34 ls []) := by
        intro x4 g_words t H locs ls hf hF hP hD hS hl
        unfold bX6_becomeSumsOf_34 at hf
        obtain ⟨y1, ey1⟩ : ∃ z : Int32, z = x4 + (1 : Int32) := ⟨_, rfl⟩
        have hf := lt_some hf y1 ey1
        refine lv_iinc (v := y1) (lv' := [(4, .int y1), (0, .ref a_this), (1, .long x1), (3, .ref a_p3)]) hx hb dX6_becomeSumsOf_34 hl (k := 3) rfl (by rw [ey1]; rfl) (by decide) rfl (fun ls hl => ?_)
        refine lv_goto (tgt := 11) hx hb dX6_becomeSumsOf_37 (by decide) ?_
        cases hf
        exact ((congrFun eF11 _).mp hF) H locs ls hP hD hS (lv_sub hl [1, 2, 3, 0] rfl)
      rw [eF11]
      obtain ⟨x4, g_words⟩ := q
      intro H locs ls hP hD hS hl
      have hP : va_P D vwCl [(a_this, .inr (6, [.ref a_words])), (a_words, .inl (cL, 4, .inr (.inl g_words))), (a_p3, .inr (6, [.ref a_p3_words])), (a_p3_words, .inl (cL, 4, .inr (.inl g_p3_words)))] H := hP
      have hD : va_D A [(a_this, .inr (6, [.ref a_words])), (a_words, .inl (cL, 4, .inr (.inl g_words))), (a_p3, .inr (6, [.ref a_p3_words])), (a_p3_words, .inl (cL, 4, .inr (.inl g_p3_words)))] := hD
      have hl : lv_has ls 5 [(0, .ref a_this), (1, .long x1), (3, .ref a_p3), (4, .int x4)] := hl
      have hf : bX6_becomeSumsOf_11 x1 g_p3_words x4 g_words = some t := hf
      unfold bX6_becomeSumsOf_11 at hf
      refine lv_iload hx hb dX6_becomeSumsOf_11 (lv_at hl 3 rfl) ?_
      refine lv_bipush (v := 40) hx hb dX6_becomeSumsOf_13 (by decide) ?_
      refine lv_icmp_gt (tgt := 40) hx hb dX6_becomeSumsOf_15 (by decide) (fun c2 => ?_) (fun c2 => ?_)
      · have hf := br_pos c2 hf
        cases hf
        have hE : g_words = v_words := hF
        subst hE
        exact rtV hx hb hr hlk hP hD hS dX6_becomeSumsOf_40
      · have hf := br_neg c2 hf
        refine lv_lload_n hx hb dX6_becomeSumsOf_18 rfl (lv_at hl 1 rfl) ?_
        refine lv_iload hx hb dX6_becomeSumsOf_19 (lv_at hl 3 rfl) ?_
        obtain ⟨u3, hu3, hf⟩ := bd_some hf
        refine caNI (rest := []) (As := [.long x1, .int x4]) (wr := [(a_this, .inr (6, [.ref a_words])), (a_words, .inl (cL, 4, .inr (.inl g_words))), (a_p3, .inr (6, [.ref a_p3_words])), (a_p3_words, .inl (cL, 4, .inr (.inl g_p3_words)))]) (wo := [(a_this, .inr (6, [.ref a_words])), (a_words, .inl (cL, 4, .inr (.inl g_words))), (a_p3, .inr (6, [.ref a_p3_words])), (a_p3_words, .inl (cL, 4, .inr (.inl g_p3_words)))]) ⟨hx, hb, hml, hown, hts⟩ hN hP hD hS hA (cX7_has_ct l D cI cL cC cZ x1 x4 u3 hu3) ⟨z1, z2, trivial⟩ [] [0, 1, 2, 3] [0, 1, 2, 3] rfl (by decide) rfl (by decide) (by decide) rfl (by decide) rfl hl.1 rfl (Nat.le_of_ble_eq_true rfl) dX6_becomeSumsOf_21 ⟨Nat.zero_le _, Nat.zero_le _⟩ (fun H locs hP hD hS => ?_)
        refine lv_if_eq (tgt := 34) hx hb dX6_becomeSumsOf_24 (by decide) (fun c4 => ?_) (fun c4 => ?_)
        · have hf := br_pos c4 hf
          exact w34 x4 g_words _ H locs ls hf hF hP hD hS (lv_sub hl [0, 1, 2, 3] rfl)
        · have hf := br_neg c4 hf
          refine lv_aload_n hx hb dX6_becomeSumsOf_27 rfl (lv_at hl 0 rfl) ?_
          refine lv_aload_n hx hb dX6_becomeSumsOf_28 rfl (lv_at hl 2 rfl) ?_
          refine lv_iload hx hb dX6_becomeSumsOf_29 (lv_at hl 3 rfl) ?_
          obtain ⟨u5, hu5, hf⟩ := bd_some hf
          refine caVV (rest := []) (As := [.ref a_p3, .int x4]) (wr := []) (wo := [(a_this, .inr (6, [.ref a_words])), (a_words, .inl (cL, 4, .inr (.inl u5))), (a_p3, .inr (6, [.ref a_p3_words])), (a_p3_words, .inl (cL, 4, .inr (.inl g_p3_words)))]) ⟨hx, hb, hml, hown, hts⟩ hN hP hD hS hA (cX6_addMoved_ct l D cI cL cC cZ a_this a_p3 a_words a_p3_words g_words g_p3_words x4 u5 hu5) z3 0 6 rfl rfl [0, 1, 2, 3] [] [0, 1, 2, 3] rfl (by decide) rfl (by decide) (by decide) rfl (by decide) rfl hl.1 rfl (Nat.le_of_ble_eq_true rfl) dX6_becomeSumsOf_31 ⟨Nat.zero_le _, Nat.zero_le _⟩ (fun H locs hP hD hS => ?_)
          exact w34 x4 u5 _ H locs ls hf hF hP hD hS (lv_sub hl [0, 1, 2, 3] rfl)
    intro x4 g_words t H locs ls hf hF hP hD hS hl
    exact ((congrFun eF11 _).mp (key ((x4, g_words)) t hf hF)) H locs ls hP hD hS hl
  unfold fX6_becomeSumsOf at hf
  obtain ⟨H, eH⟩ : ∃ z, z = s.heap := ⟨_, rfl⟩
  obtain ⟨locs, eL⟩ : ∃ z : List Loc, z = [] := ⟨_, rfl⟩
  have hP : va_P D vwCl [(a_this, .inr (6, [.ref a_words])), (a_words, .inl (cL, 4, .inr (.inl g_words))), (a_p3, .inr (6, [.ref a_p3_words])), (a_p3_words, .inl (cL, 4, .inr (.inl g_p3_words)))] H := by rw [eH]; exact hP
  have hS : va_S A s.heap H locs := by rw [eH, eL]; exact hS
  suffices hG : W p l e rmX6_becomeSumsOf s m ([.ref a_this, .long q1, .ref a_p3] : List Value).toArray below meth c H locs 0 0 (MQ below (cQv D A [(a_this, .inr (6, [.ref a_words])), (a_words, .inl (cL, 4, .inr (.inl v_words))), (a_p3, .inr (6, [.ref a_p3_words])), (a_p3_words, .inl (cL, 4, .inr (.inl g_p3_words)))]) ([.ref a_this, .long q1, .ref a_p3] : List Value).toArray s 0 0 A) (F0 m 0 ls []) by rw [eH, eL] at hG; exact hG
  refine lv_aload_n hx hb dX6_becomeSumsOf_0 rfl (lv_at hl 0 rfl) ?_
  refine va_get (D := D) (ci := 6) (v := .ref a_words) (C := RX6) (T := TX6) (N := 1) hx hb hts z4 hown hN.1 hP 0 rfl rfl 0 (by decide) z5 (fun _ h9 => h9) rfl dX6_becomeSumsOf_1 ?_
  refine lv_lconst (v := 0) hx hb dX6_becomeSumsOf_4 (by decide) ?_
  obtain ⟨u6, hu6, hf⟩ := bd_some hf
  refine caSV (rest := []) (As := [.ref a_words, .long (0 : Int64)]) (wr := [(a_this, .inr (6, [.ref a_words])), (a_p3, .inr (6, [.ref a_p3_words])), (a_p3_words, .inl (cL, 4, .inr (.inl g_p3_words)))]) (wo := [(a_this, .inr (6, [.ref a_words])), (a_words, .inl (cL, 4, .inr (.inl u6))), (a_p3, .inr (6, [.ref a_p3_words])), (a_p3_words, .inl (cL, 4, .inr (.inl g_p3_words)))]) ⟨hx, hb, hml, hown, hts⟩ hN hP hD hS hA (cJ7_fill_d0a16_ct l D cI cL cC cZ a_words 4 g_words (0 : Int64) u6 hu6) z6 [1] [0, 2, 3] [0, 3, 1, 2] rfl (by decide) rfl (by decide) (by decide) rfl (by decide) rfl hl.1 rfl (Nat.le_of_ble_eq_true rfl) dX6_becomeSumsOf_5 ⟨Nat.zero_le _, Nat.zero_le _⟩ (fun H locs hP hD hS => ?_)
  refine lv_iconst (v := 0) hx hb dX6_becomeSumsOf_8 (by decide) ?_
  refine lv_istore (lv' := [(4, .int (0 : Int32)), (0, .ref a_this), (1, .long q1), (3, .ref a_p3)]) hx hb dX6_becomeSumsOf_9 hl (by decide) rfl (fun ls hl => ?_)
  exact w11 q1 g_p3_words (0 : Int32) u6 v_words H locs ls hf rfl hP hD hS (lv_sub hl [1, 2, 3, 0] rfl)
abbrev rmX6_lowest64 : Room := { frames := 0, cells := 0, slots := 0, locals := 0 }
noncomputable def fX6_lowest64 (g_words : Nat → Int64) : Option (Int64) := gd (¬ (0 : Int32) < 0 ∧ (0 : Int32).toNatClampNeg < 4) (some (g_words (0 : Int32).toNatClampNeg))
set_option maxHeartbeats 4000000 in
set_option maxRecDepth 100000 in
theorem cX6_lowest64_ct (l : Launch) (D : va_G) (cI cL cC cZ : ClassId) (a_this a_words : Nat) (g_words : Nat → Int64) (r0 : Int64) (hf : fX6_lowest64 g_words = some r0) : CtL l yX6_lowest64 wsX6_lowest64 rmX6_lowest64 D (tyz cI cL cC cZ) [.ref a_this] [(a_this, .inr (6, [.ref a_words])), (a_words, .inl (cL, 4, .inr (.inl g_words)))] [(a_this, .inr (6, [.ref a_words])), (a_words, .inl (cL, 4, .inr (.inl g_words)))] r0 := by
  refine CtL.make (cc := cX6_lowest64) (maxL := 1) (ty := .long) (by decide) rfl (Nat.le_of_ble_eq_true rfl) ?_
  intro p e s m below meth c A ls C0 hN hA hP hD hl
  obtain ⟨hx, hb, hr, hml, hown, hts, hlk⟩ := id C0
  have hown : s.vm.findClass RX6 = some m.cls := hown
  have hS : va_S A s.heap s.heap [] := va_S.rf
  have hP : va_P D vwCl [(a_this, .inr (6, [.ref a_words])), (a_words, .inl (cL, 4, .inr (.inl g_words)))] s.heap := hP
  have hD : va_D A [(a_this, .inr (6, [.ref a_words])), (a_words, .inl (cL, 4, .inr (.inl g_words)))] := hD
  have hl : lv_has ls 1 [(0, .ref a_this)] := hl
  have z1 : ∀ w ∈ u_ws RX6 TX6 1, w ∈ wsX6_lowest64 := by decide +kernel
  have z2 := hts (.fieldLink RX6 11 "LittleSums$Wide" "words" "[J") (by decide +kernel)
  unfold fX6_lowest64 at hf
  obtain ⟨H, eH⟩ : ∃ z, z = s.heap := ⟨_, rfl⟩
  obtain ⟨locs, eL⟩ : ∃ z : List Loc, z = [] := ⟨_, rfl⟩
  have hP : va_P D vwCl [(a_this, .inr (6, [.ref a_words])), (a_words, .inl (cL, 4, .inr (.inl g_words)))] H := by rw [eH]; exact hP
  have hS : va_S A s.heap H locs := by rw [eH, eL]; exact hS
  suffices hG : W p l e rmX6_lowest64 s m ([.ref a_this] : List Value).toArray below meth c H locs 0 0 (MQ below (cQl D r0 A [(a_this, .inr (6, [.ref a_words])), (a_words, .inl (cL, 4, .inr (.inl g_words)))]) ([.ref a_this] : List Value).toArray s 0 0 A) (F0 m 0 ls []) by rw [eH, eL] at hG; exact hG
  refine lv_aload_n hx hb dX6_lowest64_0 rfl (lv_at hl 0 rfl) ?_
  refine va_get (D := D) (ci := 6) (v := .ref a_words) (C := RX6) (T := TX6) (N := 1) hx hb hts z1 hown hN.1 hP 0 rfl rfl 0 (by decide) z2 (fun _ h9 => h9) rfl dX6_lowest64_1 ?_
  refine lv_iconst (v := 0) hx hb dX6_lowest64_4 (by decide) ?_
  obtain ⟨c1, hf⟩ := gd_some hf
  refine va_lald hx hb hN.1 hP 1 1 rfl rfl (ix_in c1) dX6_lowest64_5 ?_
  have hE : g_words (0 : Int32).toNatClampNeg = r0 := Option.some.inj hf
  subst hE
  exact rtL hx hb hr hlk hP hD hS dX6_lowest64_6
abbrev rmX6_size : Room := { frames := 1, cells := 0, slots := 0, locals := 21 }
noncomputable def bX6_size_4 (g_words : Nat → Int64) (x1 : Int32) (x2 : Int32) : Option ((Int32 × Int32) ⊕ (Int32)) := br ((4 : Int32) ≤ x2) (some (Sum.inr (x1))) (gd (¬ x2 < 0 ∧ x2.toNatClampNeg < 4) (bd (fJ13_bitCount_95d88 (g_words x2.toNatClampNeg)) (fun u3 => lt_ (x1 + u3) (fun y4 => lt_ (x2 + (1 : Int32)) (fun y5 => some (Sum.inl ((y4, y5))))))))
noncomputable def sX6_size_4 (g_words : Nat → Int64) : (Int32 × Int32) → Option ((Int32 × Int32) ⊕ (Int32)) := fun q => bX6_size_4 g_words q.1 q.2
noncomputable def fX6_size (g_words : Nat → Int64) : Option (Int32) := run (sX6_size_4 g_words) (((0 : Int32), (0 : Int32)))
set_option maxHeartbeats 4000000 in
set_option maxRecDepth 100000 in
theorem cX6_size_ct (l : Launch) (D : va_G) (cI cL cC cZ : ClassId) (a_this a_words : Nat) (g_words : Nat → Int64) (r0 : Int32) (hf : fX6_size g_words = some r0) : CtI l yX6_size wsX6_size rmX6_size D (tyz cI cL cC cZ) [.ref a_this] [(a_this, .inr (6, [.ref a_words])), (a_words, .inl (cL, 4, .inr (.inl g_words)))] [(a_this, .inr (6, [.ref a_words])), (a_words, .inl (cL, 4, .inr (.inl g_words)))] r0 := by
  refine CtI.make (cc := cX6_size) (maxL := 3) (ty := .int) (by decide) rfl (Nat.le_of_ble_eq_true rfl) ?_
  intro p e s m below meth c A ls C0 hN hA hP hD hl
  obtain ⟨hx, hb, hr, hml, hown, hts, hlk⟩ := id C0
  have hown : s.vm.findClass RX6 = some m.cls := hown
  have hS : va_S A s.heap s.heap [] := va_S.rf
  have hP : va_P D vwCl [(a_this, .inr (6, [.ref a_words])), (a_words, .inl (cL, 4, .inr (.inl g_words)))] s.heap := hP
  have hD : va_D A [(a_this, .inr (6, [.ref a_words])), (a_words, .inl (cL, 4, .inr (.inl g_words)))] := hD
  have hl : lv_has ls 3 [(0, .ref a_this)] := hl
  have z1 : ∀ w ∈ u_ws RX6 TX6 1, w ∈ wsX6_size := by decide +kernel
  have z2 := hts (.fieldLink RX6 11 "LittleSums$Wide" "words" "[J") (by decide +kernel)
  have z3 := va_cwS (R := rmX6_size) (rm := rmJ13_bitCount_95d88) (mc := 0) (ms := 0) 1 hts gX6_size_J13_bitCount_95d88 rfl rfl rfl (by decide +kernel) ⟨Nat.le_of_ble_eq_true rfl, Nat.le_of_ble_eq_true rfl⟩
  have w4 : ∀ (g_words : Nat → Int64) (x1 : Int32) (x2 : Int32) (t : Int32) (H : Heap) (locs : List Loc) (ls : Array Slot), run (sX6_size_4 g_words) ((x1, x2)) = some t → (fun z => z = r0) t → va_P D vwCl [(a_this, .inr (6, [.ref a_words])), (a_words, .inl (cL, 4, .inr (.inl g_words)))] H → va_D A [(a_this, .inr (6, [.ref a_words])), (a_words, .inl (cL, 4, .inr (.inl g_words)))] → va_S A s.heap H locs → lv_has ls 3 [(0, .ref a_this), (1, .int x1), (2, .int x2)] → W p l e rmX6_size s m ([.ref a_this] : List Value).toArray below meth c H locs 0 0 (MQ below (cQi D r0 A [(a_this, .inr (6, [.ref a_words])), (a_words, .inl (cL, 4, .inr (.inl g_words)))]) ([.ref a_this] : List Value).toArray s 0 0 A) (F0 m 4 ls []) := by
    intro g_words
    obtain ⟨F4, eF4⟩ : ∃ F : (Int32 × Int32) → Prop, F = fun q => ∀ (H : Heap) (locs : List Loc) (ls : Array Slot), va_P D vwCl [(a_this, .inr (6, [.ref a_words])), (a_words, .inl (cL, 4, .inr (.inl g_words)))] H → va_D A [(a_this, .inr (6, [.ref a_words])), (a_words, .inl (cL, 4, .inr (.inl g_words)))] → va_S A s.heap H locs → lv_has ls 3 [(0, .ref a_this), (1, .int q.1), (2, .int q.2)] → W p l e rmX6_size s m ([.ref a_this] : List Value).toArray below meth c H locs 0 0 (MQ below (cQi D r0 A [(a_this, .inr (6, [.ref a_words])), (a_words, .inl (cL, 4, .inr (.inl g_words)))]) ([.ref a_this] : List Value).toArray s 0 0 A) (F0 m 4 ls []) := ⟨_, rfl⟩
    have key : ∀ (q : Int32 × Int32) (t : Int32), run (sX6_size_4 g_words) q = some t → (fun z => z = r0) t → F4 q := by
      refine loop_rule (sX6_size_4 g_words) F4 (fun z => z = r0) ?_
      intro q t hf hF
      have hF : (Sum.elim F4 (fun z => z = r0)) t := hF
      rw [eF4]
      obtain ⟨x1, x2⟩ := q
      intro H locs ls hP hD hS hl
      have hP : va_P D vwCl [(a_this, .inr (6, [.ref a_words])), (a_words, .inl (cL, 4, .inr (.inl g_words)))] H := hP
      have hD : va_D A [(a_this, .inr (6, [.ref a_words])), (a_words, .inl (cL, 4, .inr (.inl g_words)))] := hD
      have hl : lv_has ls 3 [(0, .ref a_this), (1, .int x1), (2, .int x2)] := hl
      have hf : bX6_size_4 g_words x1 x2 = some t := hf
      unfold bX6_size_4 at hf
      refine lv_iload_n hx hb dX6_size_4 rfl (lv_at hl 2 rfl) ?_
      refine lv_iconst (v := 4) hx hb dX6_size_5 (by decide) ?_
      refine lv_icmp_ge (tgt := 27) hx hb dX6_size_6 (by decide) (fun c1 => ?_) (fun c1 => ?_)
      · have hf := br_pos c1 hf
        refine lv_iload_n hx hb dX6_size_27 rfl (lv_at hl 1 rfl) ?_
        cases hf
        have hE : x1 = r0 := hF
        subst hE
        exact rtI hx hb hr hlk hP hD hS dX6_size_28
      · have hf := br_neg c1 hf
        refine lv_iload_n hx hb dX6_size_9 rfl (lv_at hl 1 rfl) ?_
        refine lv_aload_n hx hb dX6_size_10 rfl (lv_at hl 0 rfl) ?_
        refine va_get (D := D) (ci := 6) (v := .ref a_words) (C := RX6) (T := TX6) (N := 1) hx hb hts z1 hown hN.1 hP 0 rfl rfl 0 (by decide) z2 (fun _ h9 => h9) rfl dX6_size_11 ?_
        refine lv_iload_n hx hb dX6_size_14 rfl (lv_at hl 2 rfl) ?_
        obtain ⟨c2, hf⟩ := gd_some hf
        refine va_lald hx hb hN.1 hP 1 1 rfl rfl (ix_in c2) dX6_size_15 ?_
        obtain ⟨u3, hu3, hf⟩ := bd_some hf
        refine caSI (rest := [.int x1]) (As := [.long (g_words x2.toNatClampNeg)]) (wr := [(a_this, .inr (6, [.ref a_words])), (a_words, .inl (cL, 4, .inr (.inl g_words)))]) (wo := [(a_this, .inr (6, [.ref a_words])), (a_words, .inl (cL, 4, .inr (.inl g_words)))]) ⟨hx, hb, hml, hown, hts⟩ hN hP hD hS hA (cJ13_bitCount_95d88_ct l D cI cL cC cZ (g_words x2.toNatClampNeg) u3 hu3) z3 [] [0, 1] [0, 1] rfl (by decide) rfl (by decide) (by decide) rfl (by decide) rfl hl.1 rfl (Nat.le_of_ble_eq_true rfl) dX6_size_16 ⟨Nat.zero_le _, Nat.zero_le _⟩ (fun H locs hP hD hS => ?_)
        refine lv_iadd hx hb dX6_size_19 ?_
        refine lv_topi (fun y4 ey4 => ?_)
        have hf := lt_some hf y4 ey4
        refine lv_istore_n (lv' := [(1, .int y4), (0, .ref a_this), (2, .int x2)]) hx hb dX6_size_20 rfl hl (by decide) rfl (fun ls hl => ?_)
        obtain ⟨y5, ey5⟩ : ∃ z : Int32, z = x2 + (1 : Int32) := ⟨_, rfl⟩
        have hf := lt_some hf y5 ey5
        refine lv_iinc (v := y5) (lv' := [(2, .int y5), (1, .int y4), (0, .ref a_this)]) hx hb dX6_size_21 hl (k := 2) rfl (by rw [ey5]; rfl) (by decide) rfl (fun ls hl => ?_)
        refine lv_goto (tgt := 4) hx hb dX6_size_24 (by decide) ?_
        cases hf
        exact ((congrFun eF4 _).mp hF) H locs ls hP hD hS (lv_sub hl [2, 1, 0] rfl)
    intro x1 x2 t H locs ls hf hF hP hD hS hl
    exact ((congrFun eF4 _).mp (key ((x1, x2)) t hf hF)) H locs ls hP hD hS hl
  unfold fX6_size at hf
  obtain ⟨H, eH⟩ : ∃ z, z = s.heap := ⟨_, rfl⟩
  obtain ⟨locs, eL⟩ : ∃ z : List Loc, z = [] := ⟨_, rfl⟩
  have hP : va_P D vwCl [(a_this, .inr (6, [.ref a_words])), (a_words, .inl (cL, 4, .inr (.inl g_words)))] H := by rw [eH]; exact hP
  have hS : va_S A s.heap H locs := by rw [eH, eL]; exact hS
  suffices hG : W p l e rmX6_size s m ([.ref a_this] : List Value).toArray below meth c H locs 0 0 (MQ below (cQi D r0 A [(a_this, .inr (6, [.ref a_words])), (a_words, .inl (cL, 4, .inr (.inl g_words)))]) ([.ref a_this] : List Value).toArray s 0 0 A) (F0 m 0 ls []) by rw [eH, eL] at hG; exact hG
  refine lv_iconst (v := 0) hx hb dX6_size_0 (by decide) ?_
  refine lv_istore_n (lv' := [(1, .int (0 : Int32)), (0, .ref a_this)]) hx hb dX6_size_1 rfl hl (by decide) rfl (fun ls hl => ?_)
  refine lv_iconst (v := 0) hx hb dX6_size_2 (by decide) ?_
  refine lv_istore_n (lv' := [(2, .int (0 : Int32)), (1, .int (0 : Int32)), (0, .ref a_this)]) hx hb dX6_size_3 rfl hl (by decide) rfl (fun ls hl => ?_)
  exact w4 g_words (0 : Int32) (0 : Int32) r0 H locs ls hf rfl hP hD hS (lv_sub hl [2, 1, 0] rfl)
abbrev rmX6_greatest : Room := { frames := 3, cells := 0, slots := 0, locals := 64 }
noncomputable def bX6_greatest_2 (g_words : Nat → Int64) (x1 : Int32) : Option ((Int32) ⊕ (Int32)) := br (x1 < 0) (some (Sum.inr ((-4 : Int32)))) (gd (¬ x1 < 0 ∧ x1.toNatClampNeg < 4) (br ((lg_cmp (g_words x1.toNatClampNeg) (0 : Int64)) = 0) (lt_ (x1 + (-1 : Int32)) (fun y4 => some (Sum.inl y4))) (gd (¬ x1 < 0 ∧ x1.toNatClampNeg < 4) (bd (fX7_greatestOf (g_words x1.toNatClampNeg)) (fun u6 => some (Sum.inr (((64 : Int32) * x1) + u6)))))))
noncomputable def sX6_greatest_2 (g_words : Nat → Int64) : (Int32) → Option ((Int32) ⊕ (Int32)) := fun q => bX6_greatest_2 g_words q
noncomputable def fX6_greatest (g_words : Nat → Int64) : Option (Int32) := run (sX6_greatest_2 g_words) (3 : Int32)
set_option maxHeartbeats 4000000 in
set_option maxRecDepth 100000 in
theorem cX6_greatest_ct (l : Launch) (D : va_G) (cI cL cC cZ : ClassId) (a_this a_words : Nat) (g_words : Nat → Int64) (r0 : Int32) (hf : fX6_greatest g_words = some r0) : CtI l yX6_greatest wsX6_greatest rmX6_greatest D (tyz cI cL cC cZ) [.ref a_this] [(a_this, .inr (6, [.ref a_words])), (a_words, .inl (cL, 4, .inr (.inl g_words)))] [(a_this, .inr (6, [.ref a_words])), (a_words, .inl (cL, 4, .inr (.inl g_words)))] r0 := by
  refine CtI.make (cc := cX6_greatest) (maxL := 2) (ty := .int) (by decide) rfl (Nat.le_of_ble_eq_true rfl) ?_
  intro p e s m below meth c A ls C0 hN hA hP hD hl
  obtain ⟨hx, hb, hr, hml, hown, hts, hlk⟩ := id C0
  have hown : s.vm.findClass RX6 = some m.cls := hown
  have hS : va_S A s.heap s.heap [] := va_S.rf
  have hP : va_P D vwCl [(a_this, .inr (6, [.ref a_words])), (a_words, .inl (cL, 4, .inr (.inl g_words)))] s.heap := hP
  have hD : va_D A [(a_this, .inr (6, [.ref a_words])), (a_words, .inl (cL, 4, .inr (.inl g_words)))] := hD
  have hl : lv_has ls 2 [(0, .ref a_this)] := hl
  have z1 : ∀ w ∈ u_ws RX6 TX6 1, w ∈ wsX6_greatest := by decide +kernel
  have z2 := hts (.fieldLink RX6 11 "LittleSums$Wide" "words" "[J") (by decide +kernel)
  have z3 := va_cnB (R := rmX6_greatest) (rm := rmX7_greatestOf) (mc := 0) (ms := 0) 1 hts ggX6_greatest_X7_greatestOf rfl rfl rfl (hN.2 (RX6, 45, yX7_greatestOf, "LittleSums") (by decide +kernel)) (hts (.initialized RX7) (by decide +kernel)) (by decide +kernel) ⟨Nat.le_of_ble_eq_true rfl, Nat.le_of_ble_eq_true rfl⟩
  have z4 := hts (.static yX7_greatestOf) (by decide +kernel)
  have w2 : ∀ (g_words : Nat → Int64) (x1 : Int32) (t : Int32) (H : Heap) (locs : List Loc) (ls : Array Slot), run (sX6_greatest_2 g_words) x1 = some t → (fun z => z = r0) t → va_P D vwCl [(a_this, .inr (6, [.ref a_words])), (a_words, .inl (cL, 4, .inr (.inl g_words)))] H → va_D A [(a_this, .inr (6, [.ref a_words])), (a_words, .inl (cL, 4, .inr (.inl g_words)))] → va_S A s.heap H locs → lv_has ls 2 [(0, .ref a_this), (1, .int x1)] → W p l e rmX6_greatest s m ([.ref a_this] : List Value).toArray below meth c H locs 0 0 (MQ below (cQi D r0 A [(a_this, .inr (6, [.ref a_words])), (a_words, .inl (cL, 4, .inr (.inl g_words)))]) ([.ref a_this] : List Value).toArray s 0 0 A) (F0 m 2 ls []) := by
    intro g_words
    obtain ⟨F2, eF2⟩ : ∃ F : (Int32) → Prop, F = fun q => ∀ (H : Heap) (locs : List Loc) (ls : Array Slot), va_P D vwCl [(a_this, .inr (6, [.ref a_words])), (a_words, .inl (cL, 4, .inr (.inl g_words)))] H → va_D A [(a_this, .inr (6, [.ref a_words])), (a_words, .inl (cL, 4, .inr (.inl g_words)))] → va_S A s.heap H locs → lv_has ls 2 [(0, .ref a_this), (1, .int q)] → W p l e rmX6_greatest s m ([.ref a_this] : List Value).toArray below meth c H locs 0 0 (MQ below (cQi D r0 A [(a_this, .inr (6, [.ref a_words])), (a_words, .inl (cL, 4, .inr (.inl g_words)))]) ([.ref a_this] : List Value).toArray s 0 0 A) (F0 m 2 ls []) := ⟨_, rfl⟩
    have key : ∀ (q : Int32) (t : Int32), run (sX6_greatest_2 g_words) q = some t → (fun z => z = r0) t → F2 q := by
      refine loop_rule (sX6_greatest_2 g_words) F2 (fun z => z = r0) ?_
      intro q t hf hF
      have hF : (Sum.elim F2 (fun z => z = r0)) t := hF
      rw [eF2]
      obtain ⟨x1, rfl⟩ : ∃ z, z = q := ⟨_, rfl⟩
      intro H locs ls hP hD hS hl
      have hP : va_P D vwCl [(a_this, .inr (6, [.ref a_words])), (a_words, .inl (cL, 4, .inr (.inl g_words)))] H := hP
      have hD : va_D A [(a_this, .inr (6, [.ref a_words])), (a_words, .inl (cL, 4, .inr (.inl g_words)))] := hD
      have hl : lv_has ls 2 [(0, .ref a_this), (1, .int x1)] := hl
      have hf : bX6_greatest_2 g_words x1 = some t := hf
      unfold bX6_greatest_2 at hf
      refine lv_iload_n hx hb dX6_greatest_2 rfl (lv_at hl 1 rfl) ?_
      refine lv_if_lt (tgt := 38) hx hb dX6_greatest_3 (by decide) (fun c1 => ?_) (fun c1 => ?_)
      · have hf := br_pos c1 hf
        refine lv_bipush (v := -4) hx hb dX6_greatest_38 (by decide) ?_
        cases hf
        have hE : (-4 : Int32) = r0 := hF
        subst hE
        exact rtI hx hb hr hlk hP hD hS dX6_greatest_40
      · have hf := br_neg c1 hf
        refine lv_aload_n hx hb dX6_greatest_6 rfl (lv_at hl 0 rfl) ?_
        refine va_get (D := D) (ci := 6) (v := .ref a_words) (C := RX6) (T := TX6) (N := 1) hx hb hts z1 hown hN.1 hP 0 rfl rfl 0 (by decide) z2 (fun _ h9 => h9) rfl dX6_greatest_7 ?_
        refine lv_iload_n hx hb dX6_greatest_10 rfl (lv_at hl 1 rfl) ?_
        obtain ⟨c2, hf⟩ := gd_some hf
        refine va_lald hx hb hN.1 hP 1 1 rfl rfl (ix_in c2) dX6_greatest_11 ?_
        refine lv_lconst (v := 0) hx hb dX6_greatest_12 (by decide) ?_
        refine W.lcmp hx hb dX6_greatest_13 ?_
        refine lv_if_eq (tgt := 32) hx hb dX6_greatest_14 (by decide) (fun c3 => ?_) (fun c3 => ?_)
        · have hf := br_pos c3 hf
          obtain ⟨y4, ey4⟩ : ∃ z : Int32, z = x1 + (-1 : Int32) := ⟨_, rfl⟩
          have hf := lt_some hf y4 ey4
          refine lv_iinc (v := y4) (lv' := [(1, .int y4), (0, .ref a_this)]) hx hb dX6_greatest_32 hl (k := 1) rfl (by rw [ey4]; rfl) (by decide) rfl (fun ls hl => ?_)
          refine lv_goto (tgt := 2) hx hb dX6_greatest_35 (by decide) ?_
          cases hf
          exact ((congrFun eF2 _).mp hF) H locs ls hP hD hS (lv_sub hl [1, 0] rfl)
        · have hf := br_neg c3 hf
          refine lv_bipush (v := 64) hx hb dX6_greatest_17 (by decide) ?_
          refine lv_iload_n hx hb dX6_greatest_19 rfl (lv_at hl 1 rfl) ?_
          refine lv_imul hx hb dX6_greatest_20 ?_
          refine lv_aload_n hx hb dX6_greatest_21 rfl (lv_at hl 0 rfl) ?_
          refine va_get (D := D) (ci := 6) (v := .ref a_words) (C := RX6) (T := TX6) (N := 1) hx hb hts z1 hown hN.1 hP 0 rfl rfl 0 (by decide) z2 (fun _ h9 => h9) rfl dX6_greatest_22 ?_
          refine lv_iload_n hx hb dX6_greatest_25 rfl (lv_at hl 1 rfl) ?_
          obtain ⟨c5, hf⟩ := gd_some hf
          refine va_lald hx hb hN.1 hP 1 1 rfl rfl (ix_in c5) dX6_greatest_26 ?_
          obtain ⟨u6, hu6, hf⟩ := bd_some hf
          refine caNI (rest := [.int ((64 : Int32) * x1)]) (As := [.long (g_words x1.toNatClampNeg)]) (wr := [(a_this, .inr (6, [.ref a_words])), (a_words, .inl (cL, 4, .inr (.inl g_words)))]) (wo := [(a_this, .inr (6, [.ref a_words])), (a_words, .inl (cL, 4, .inr (.inl g_words)))]) ⟨hx, hb, hml, hown, hts⟩ hN hP hD hS hA (cX7_greatestOf_ct l D cI cL cC cZ (g_words x1.toNatClampNeg) u6 hu6) ⟨z3, z4, trivial⟩ [] [0, 1] [0, 1] rfl (by decide) rfl (by decide) (by decide) rfl (by decide) rfl hl.1 rfl (Nat.le_of_ble_eq_true rfl) dX6_greatest_27 ⟨Nat.zero_le _, Nat.zero_le _⟩ (fun H locs hP hD hS => ?_)
          refine lv_iadd hx hb dX6_greatest_30 ?_
          cases hf
          have hE : ((64 : Int32) * x1) + u6 = r0 := hF
          subst hE
          exact rtI hx hb hr hlk hP hD hS dX6_greatest_31
    intro x1 t H locs ls hf hF hP hD hS hl
    exact ((congrFun eF2 _).mp (key x1 t hf hF)) H locs ls hP hD hS hl
  unfold fX6_greatest at hf
  obtain ⟨H, eH⟩ : ∃ z, z = s.heap := ⟨_, rfl⟩
  obtain ⟨locs, eL⟩ : ∃ z : List Loc, z = [] := ⟨_, rfl⟩
  have hP : va_P D vwCl [(a_this, .inr (6, [.ref a_words])), (a_words, .inl (cL, 4, .inr (.inl g_words)))] H := by rw [eH]; exact hP
  have hS : va_S A s.heap H locs := by rw [eH, eL]; exact hS
  suffices hG : W p l e rmX6_greatest s m ([.ref a_this] : List Value).toArray below meth c H locs 0 0 (MQ below (cQi D r0 A [(a_this, .inr (6, [.ref a_words])), (a_words, .inl (cL, 4, .inr (.inl g_words)))]) ([.ref a_this] : List Value).toArray s 0 0 A) (F0 m 0 ls []) by rw [eH, eL] at hG; exact hG
  refine lv_iconst (v := 3) hx hb dX6_greatest_0 (by decide) ?_
  refine lv_istore_n (lv' := [(1, .int (3 : Int32)), (0, .ref a_this)]) hx hb dX6_greatest_1 rfl hl (by decide) rfl (fun ls hl => ?_)
  exact w2 g_words (3 : Int32) r0 H locs ls hf rfl hP hD hS (lv_sub hl [1, 0] rfl)
abbrev rmX7_numberAt : Room := { frames := 3, cells := 0, slots := 0, locals := 64 }
noncomputable def bX7_numberAt_20 (x2 : Int32) (x3 : Int64) (x5 : Int32) : Option ((Int64 × Int32) ⊕ (Int32)) := br (x2 ≤ x5) (bd (fX7_leastOf x3) (fun u2 => some (Sum.inr (u2)))) (lt_ (x3 &&& (x3 - (1 : Int64))) (fun y3 => lt_ (x5 + (1 : Int32)) (fun y4 => some (Sum.inl ((y3, y4))))))
noncomputable def sX7_numberAt_20 (x2 : Int32) : (Int64 × Int32) → Option ((Int64 × Int32) ⊕ (Int32)) := fun q => bX7_numberAt_20 x2 q.1 q.2
noncomputable def fX7_numberAt (q0 : Int64) (q2 : Int32) : Option (Int32) := br (q2 < 0) (some ((-4 : Int32))) (bd (fJ13_bitCount_95d88 q0) (fun u6 => br (q2 < u6) (run (sX7_numberAt_20 q2) ((q0, (0 : Int32)))) (some ((-4 : Int32)))))
set_option maxHeartbeats 4000000 in
set_option maxRecDepth 100000 in
theorem cX7_numberAt_ct (l : Launch) (D : va_G) (cI cL cC cZ : ClassId) (q0 : Int64) (q2 : Int32) (r0 : Int32) (hf : fX7_numberAt q0 q2 = some r0) : CtI l yX7_numberAt wsX7_numberAt rmX7_numberAt D (tyz cI cL cC cZ) [.long q0, .int q2] [] [] r0 := by
  refine CtI.make (cc := cX7_numberAt) (maxL := 6) (ty := .int) (by decide) rfl (Nat.le_of_ble_eq_true rfl) ?_
  intro p e s m below meth c A ls C0 hN hA hP hD hl
  obtain ⟨hx, hb, hr, hml, hown, hts, hlk⟩ := id C0
  have hown : s.vm.findClass RX7 = some m.cls := hown
  have hS : va_S A s.heap s.heap [] := va_S.rf
  have hP : va_P D vwCl [] s.heap := hP
  have hD : va_D A [] := hD
  have hl : lv_has ls 6 [(0, .long q0), (2, .int q2)] := hl
  have z1 := va_cwS (R := rmX7_numberAt) (rm := rmX7_leastOf) (mc := 0) (ms := 0) 1 hts gX7_numberAt_X7_leastOf rfl rfl rfl (by decide +kernel) ⟨Nat.le_of_ble_eq_true rfl, Nat.le_of_ble_eq_true rfl⟩
  have z2 := va_cwS (R := rmX7_numberAt) (rm := rmJ13_bitCount_95d88) (mc := 0) (ms := 0) 1 hts gX7_numberAt_J13_bitCount_95d88 rfl rfl rfl (by decide +kernel) ⟨Nat.le_of_ble_eq_true rfl, Nat.le_of_ble_eq_true rfl⟩
  have w20 : ∀ (x2 : Int32) (x3 : Int64) (x5 : Int32) (t : Int32) (H : Heap) (locs : List Loc) (ls : Array Slot), run (sX7_numberAt_20 x2) ((x3, x5)) = some t → (fun z => z = r0) t → va_P D vwCl [] H → va_D A [] → va_S A s.heap H locs → lv_has ls 6 [(2, .int x2), (3, .long x3), (5, .int x5)] → W p l e rmX7_numberAt s m ([.long q0, .int q2] : List Value).toArray below meth c H locs 0 0 (MQ below (cQi D r0 A []) ([.long q0, .int q2] : List Value).toArray s 0 0 A) (F0 m 20 ls []) := by
    intro x2
    obtain ⟨F20, eF20⟩ : ∃ F : (Int64 × Int32) → Prop, F = fun q => ∀ (H : Heap) (locs : List Loc) (ls : Array Slot), va_P D vwCl [] H → va_D A [] → va_S A s.heap H locs → lv_has ls 6 [(2, .int x2), (3, .long q.1), (5, .int q.2)] → W p l e rmX7_numberAt s m ([.long q0, .int q2] : List Value).toArray below meth c H locs 0 0 (MQ below (cQi D r0 A []) ([.long q0, .int q2] : List Value).toArray s 0 0 A) (F0 m 20 ls []) := ⟨_, rfl⟩
    have key : ∀ (q : Int64 × Int32) (t : Int32), run (sX7_numberAt_20 x2) q = some t → (fun z => z = r0) t → F20 q := by
      refine loop_rule (sX7_numberAt_20 x2) F20 (fun z => z = r0) ?_
      intro q t hf hF
      have hF : (Sum.elim F20 (fun z => z = r0)) t := hF
      rw [eF20]
      obtain ⟨x3, x5⟩ := q
      intro H locs ls hP hD hS hl
      have hP : va_P D vwCl [] H := hP
      have hD : va_D A [] := hD
      have hl : lv_has ls 6 [(2, .int x2), (3, .long x3), (5, .int x5)] := hl
      have hf : bX7_numberAt_20 x2 x3 x5 = some t := hf
      unfold bX7_numberAt_20 at hf
      refine lv_iload hx hb dX7_numberAt_20 (lv_at hl 2 rfl) ?_
      refine lv_iload_n hx hb dX7_numberAt_22 rfl (lv_at hl 0 rfl) ?_
      refine lv_icmp_ge (tgt := 38) hx hb dX7_numberAt_23 (by decide) (fun c1 => ?_) (fun c1 => ?_)
      · have hf := br_pos c1 hf
        refine lv_lload_n hx hb dX7_numberAt_38 rfl (lv_at hl 1 rfl) ?_
        obtain ⟨u2, hu2, hf⟩ := bd_some hf
        refine caSI (rest := []) (As := [.long x3]) (wr := []) (wo := []) ⟨hx, hb, hml, hown, hts⟩ hN hP hD hS hA (cX7_leastOf_ct l D cI cL cC cZ x3 u2 hu2) z1 [] [] [] rfl (by decide) rfl (by decide) (by decide) rfl (by decide) rfl hl.1 rfl (Nat.le_of_ble_eq_true rfl) dX7_numberAt_39 ⟨Nat.zero_le _, Nat.zero_le _⟩ (fun H locs hP hD hS => ?_)
        cases hf
        have hE : u2 = r0 := hF
        subst hE
        exact rtI hx hb hr hlk hP hD hS dX7_numberAt_42
      · have hf := br_neg c1 hf
        refine lv_lload_n hx hb dX7_numberAt_26 rfl (lv_at hl 1 rfl) ?_
        refine lv_lload_n hx hb dX7_numberAt_27 rfl (lv_at hl 1 rfl) ?_
        refine lv_lconst (v := 1) hx hb dX7_numberAt_28 (by decide) ?_
        refine lv_lsub hx hb dX7_numberAt_29 ?_
        refine lv_land hx hb dX7_numberAt_30 ?_
        refine lv_topl (fun y3 ey3 => ?_)
        have hf := lt_some hf y3 ey3
        refine lv_lstore_n (lv' := [(3, .long y3), (2, .int x2), (5, .int x5)]) hx hb dX7_numberAt_31 rfl hl (by decide) rfl (fun ls hl => ?_)
        obtain ⟨y4, ey4⟩ : ∃ z : Int32, z = x5 + (1 : Int32) := ⟨_, rfl⟩
        have hf := lt_some hf y4 ey4
        refine lv_iinc (v := y4) (lv' := [(5, .int y4), (3, .long y3), (2, .int x2)]) hx hb dX7_numberAt_32 hl (k := 2) rfl (by rw [ey4]; rfl) (by decide) rfl (fun ls hl => ?_)
        refine lv_goto (tgt := 20) hx hb dX7_numberAt_35 (by decide) ?_
        cases hf
        exact ((congrFun eF20 _).mp hF) H locs ls hP hD hS (lv_sub hl [2, 1, 0] rfl)
    intro x3 x5 t H locs ls hf hF hP hD hS hl
    exact ((congrFun eF20 _).mp (key ((x3, x5)) t hf hF)) H locs ls hP hD hS hl
  unfold fX7_numberAt at hf
  obtain ⟨H, eH⟩ : ∃ z, z = s.heap := ⟨_, rfl⟩
  obtain ⟨locs, eL⟩ : ∃ z : List Loc, z = [] := ⟨_, rfl⟩
  have hP : va_P D vwCl [] H := by rw [eH]; exact hP
  have hS : va_S A s.heap H locs := by rw [eH, eL]; exact hS
  suffices hG : W p l e rmX7_numberAt s m ([.long q0, .int q2] : List Value).toArray below meth c H locs 0 0 (MQ below (cQi D r0 A []) ([.long q0, .int q2] : List Value).toArray s 0 0 A) (F0 m 0 ls []) by rw [eH, eL] at hG; exact hG
  refine lv_iload_n hx hb dX7_numberAt_0 rfl (lv_at hl 1 rfl) ?_
  refine lv_if_lt (tgt := 12) hx hb dX7_numberAt_1 (by decide) (fun c5 => ?_) (fun c5 => ?_)
  · have hf := br_pos c5 hf
    refine lv_bipush (v := -4) hx hb dX7_numberAt_12 (by decide) ?_
    have hE : (-4 : Int32) = r0 := Option.some.inj hf
    subst hE
    exact rtI hx hb hr hlk hP hD hS dX7_numberAt_14
  · have hf := br_neg c5 hf
    refine lv_iload_n hx hb dX7_numberAt_4 rfl (lv_at hl 1 rfl) ?_
    refine lv_lload_n hx hb dX7_numberAt_5 rfl (lv_at hl 0 rfl) ?_
    obtain ⟨u6, hu6, hf⟩ := bd_some hf
    refine caSI (rest := [.int q2]) (As := [.long q0]) (wr := []) (wo := []) ⟨hx, hb, hml, hown, hts⟩ hN hP hD hS hA (cJ13_bitCount_95d88_ct l D cI cL cC cZ q0 u6 hu6) z2 [] [] [] rfl (by decide) rfl (by decide) (by decide) rfl (by decide) rfl hl.1 rfl (Nat.le_of_ble_eq_true rfl) dX7_numberAt_6 ⟨Nat.zero_le _, Nat.zero_le _⟩ (fun H locs hP hD hS => ?_)
    refine lv_icmp_lt (tgt := 15) hx hb dX7_numberAt_9 (by decide) (fun c7 => ?_) (fun c7 => ?_)
    · have hf := br_pos c7 hf
      refine lv_lload_n hx hb dX7_numberAt_15 rfl (lv_at hl 0 rfl) ?_
      refine lv_lstore_n (lv' := [(3, .long q0), (0, .long q0), (2, .int q2)]) hx hb dX7_numberAt_16 rfl hl (by decide) rfl (fun ls hl => ?_)
      refine lv_iconst (v := 0) hx hb dX7_numberAt_17 (by decide) ?_
      refine lv_istore (lv' := [(5, .int (0 : Int32)), (3, .long q0), (0, .long q0), (2, .int q2)]) hx hb dX7_numberAt_18 hl (by decide) rfl (fun ls hl => ?_)
      exact w20 q2 q0 (0 : Int32) r0 H locs ls hf rfl hP hD hS (lv_sub hl [3, 1, 0] rfl)
    · have hf := br_neg c7 hf
      refine lv_bipush (v := -4) hx hb dX7_numberAt_12 (by decide) ?_
      have hE : (-4 : Int32) = r0 := Option.some.inj hf
      subst hE
      exact rtI hx hb hr hlk hP hD hS dX7_numberAt_14
abbrev rmX6_numberAtPlace : Room := { frames := 4, cells := 0, slots := 0, locals := 89 }
noncomputable def bX6_numberAtPlace_4 (g_words : Nat → Int64) (x2 : Int32) (x3 : Int32) : Option ((Int32 × Int32) ⊕ (Int32)) := br ((4 : Int32) ≤ x3) (some (Sum.inr ((-4 : Int32)))) (gd (¬ x3 < 0 ∧ x3.toNatClampNeg < 4) (bd (fJ13_bitCount_95d88 (g_words x3.toNatClampNeg)) (fun u3 => br (u3 ≤ x2) (lt_ (x2 - u3) (fun y5 => lt_ (x3 + (1 : Int32)) (fun y6 => some (Sum.inl ((y5, y6)))))) (gd (¬ x3 < 0 ∧ x3.toNatClampNeg < 4) (bd (fX7_numberAt (g_words x3.toNatClampNeg) x2) (fun u8 => some (Sum.inr (((64 : Int32) * x3) + u8))))))))
noncomputable def sX6_numberAtPlace_4 (g_words : Nat → Int64) : (Int32 × Int32) → Option ((Int32 × Int32) ⊕ (Int32)) := fun q => bX6_numberAtPlace_4 g_words q.1 q.2
noncomputable def fX6_numberAtPlace (q1 : Int32) (g_words : Nat → Int64) : Option (Int32) := run (sX6_numberAtPlace_4 g_words) ((q1, (0 : Int32)))
set_option maxHeartbeats 4000000 in
set_option maxRecDepth 100000 in
theorem cX6_numberAtPlace_ct (l : Launch) (D : va_G) (cI cL cC cZ : ClassId) (a_this a_words : Nat) (g_words : Nat → Int64) (q1 : Int32) (r0 : Int32) (hf : fX6_numberAtPlace q1 g_words = some r0) : CtI l yX6_numberAtPlace wsX6_numberAtPlace rmX6_numberAtPlace D (tyz cI cL cC cZ) [.ref a_this, .int q1] [(a_this, .inr (6, [.ref a_words])), (a_words, .inl (cL, 4, .inr (.inl g_words)))] [(a_this, .inr (6, [.ref a_words])), (a_words, .inl (cL, 4, .inr (.inl g_words)))] r0 := by
  refine CtI.make (cc := cX6_numberAtPlace) (maxL := 5) (ty := .int) (by decide) rfl (Nat.le_of_ble_eq_true rfl) ?_
  intro p e s m below meth c A ls C0 hN hA hP hD hl
  obtain ⟨hx, hb, hr, hml, hown, hts, hlk⟩ := id C0
  have hown : s.vm.findClass RX6 = some m.cls := hown
  have hS : va_S A s.heap s.heap [] := va_S.rf
  have hP : va_P D vwCl [(a_this, .inr (6, [.ref a_words])), (a_words, .inl (cL, 4, .inr (.inl g_words)))] s.heap := hP
  have hD : va_D A [(a_this, .inr (6, [.ref a_words])), (a_words, .inl (cL, 4, .inr (.inl g_words)))] := hD
  have hl : lv_has ls 5 [(0, .ref a_this), (1, .int q1)] := hl
  have z1 : ∀ w ∈ u_ws RX6 TX6 1, w ∈ wsX6_numberAtPlace := by decide +kernel
  have z2 := hts (.fieldLink RX6 11 "LittleSums$Wide" "words" "[J") (by decide +kernel)
  have z3 := va_cwS (R := rmX6_numberAtPlace) (rm := rmJ13_bitCount_95d88) (mc := 0) (ms := 0) 1 hts gX6_numberAtPlace_J13_bitCount_95d88 rfl rfl rfl (by decide +kernel) ⟨Nat.le_of_ble_eq_true rfl, Nat.le_of_ble_eq_true rfl⟩
  have z4 := va_cnB (R := rmX6_numberAtPlace) (rm := rmX7_numberAt) (mc := 0) (ms := 0) 2 hts ggX6_numberAtPlace_X7_numberAt rfl rfl rfl (hN.2 (RX6, 48, yX7_numberAt, "LittleSums") (by decide +kernel)) (hts (.initialized RX7) (by decide +kernel)) (by decide +kernel) ⟨Nat.le_of_ble_eq_true rfl, Nat.le_of_ble_eq_true rfl⟩
  have z5 := hts (.static yX7_numberAt) (by decide +kernel)
  have w4 : ∀ (g_words : Nat → Int64) (x2 : Int32) (x3 : Int32) (t : Int32) (H : Heap) (locs : List Loc) (ls : Array Slot), run (sX6_numberAtPlace_4 g_words) ((x2, x3)) = some t → (fun z => z = r0) t → va_P D vwCl [(a_this, .inr (6, [.ref a_words])), (a_words, .inl (cL, 4, .inr (.inl g_words)))] H → va_D A [(a_this, .inr (6, [.ref a_words])), (a_words, .inl (cL, 4, .inr (.inl g_words)))] → va_S A s.heap H locs → lv_has ls 5 [(0, .ref a_this), (2, .int x2), (3, .int x3)] → W p l e rmX6_numberAtPlace s m ([.ref a_this, .int q1] : List Value).toArray below meth c H locs 0 0 (MQ below (cQi D r0 A [(a_this, .inr (6, [.ref a_words])), (a_words, .inl (cL, 4, .inr (.inl g_words)))]) ([.ref a_this, .int q1] : List Value).toArray s 0 0 A) (F0 m 4 ls []) := by
    intro g_words
    obtain ⟨F4, eF4⟩ : ∃ F : (Int32 × Int32) → Prop, F = fun q => ∀ (H : Heap) (locs : List Loc) (ls : Array Slot), va_P D vwCl [(a_this, .inr (6, [.ref a_words])), (a_words, .inl (cL, 4, .inr (.inl g_words)))] H → va_D A [(a_this, .inr (6, [.ref a_words])), (a_words, .inl (cL, 4, .inr (.inl g_words)))] → va_S A s.heap H locs → lv_has ls 5 [(0, .ref a_this), (2, .int q.1), (3, .int q.2)] → W p l e rmX6_numberAtPlace s m ([.ref a_this, .int q1] : List Value).toArray below meth c H locs 0 0 (MQ below (cQi D r0 A [(a_this, .inr (6, [.ref a_words])), (a_words, .inl (cL, 4, .inr (.inl g_words)))]) ([.ref a_this, .int q1] : List Value).toArray s 0 0 A) (F0 m 4 ls []) := ⟨_, rfl⟩
    have key : ∀ (q : Int32 × Int32) (t : Int32), run (sX6_numberAtPlace_4 g_words) q = some t → (fun z => z = r0) t → F4 q := by
      refine loop_rule (sX6_numberAtPlace_4 g_words) F4 (fun z => z = r0) ?_
      intro q t hf hF
      have hF : (Sum.elim F4 (fun z => z = r0)) t := hF
      rw [eF4]
      obtain ⟨x2, x3⟩ := q
      intro H locs ls hP hD hS hl
      have hP : va_P D vwCl [(a_this, .inr (6, [.ref a_words])), (a_words, .inl (cL, 4, .inr (.inl g_words)))] H := hP
      have hD : va_D A [(a_this, .inr (6, [.ref a_words])), (a_words, .inl (cL, 4, .inr (.inl g_words)))] := hD
      have hl : lv_has ls 5 [(0, .ref a_this), (2, .int x2), (3, .int x3)] := hl
      have hf : bX6_numberAtPlace_4 g_words x2 x3 = some t := hf
      unfold bX6_numberAtPlace_4 at hf
      refine lv_iload_n hx hb dX6_numberAtPlace_4 rfl (lv_at hl 2 rfl) ?_
      refine lv_iconst (v := 4) hx hb dX6_numberAtPlace_5 (by decide) ?_
      refine lv_icmp_ge (tgt := 53) hx hb dX6_numberAtPlace_6 (by decide) (fun c1 => ?_) (fun c1 => ?_)
      · have hf := br_pos c1 hf
        refine lv_bipush (v := -4) hx hb dX6_numberAtPlace_53 (by decide) ?_
        cases hf
        have hE : (-4 : Int32) = r0 := hF
        subst hE
        exact rtI hx hb hr hlk hP hD hS dX6_numberAtPlace_55
      · have hf := br_neg c1 hf
        refine lv_aload_n hx hb dX6_numberAtPlace_9 rfl (lv_at hl 0 rfl) ?_
        refine va_get (D := D) (ci := 6) (v := .ref a_words) (C := RX6) (T := TX6) (N := 1) hx hb hts z1 hown hN.1 hP 0 rfl rfl 0 (by decide) z2 (fun _ h9 => h9) rfl dX6_numberAtPlace_10 ?_
        refine lv_iload_n hx hb dX6_numberAtPlace_13 rfl (lv_at hl 2 rfl) ?_
        obtain ⟨c2, hf⟩ := gd_some hf
        refine va_lald hx hb hN.1 hP 1 1 rfl rfl (ix_in c2) dX6_numberAtPlace_14 ?_
        obtain ⟨u3, hu3, hf⟩ := bd_some hf
        refine caSI (rest := []) (As := [.long (g_words x3.toNatClampNeg)]) (wr := [(a_this, .inr (6, [.ref a_words])), (a_words, .inl (cL, 4, .inr (.inl g_words)))]) (wo := [(a_this, .inr (6, [.ref a_words])), (a_words, .inl (cL, 4, .inr (.inl g_words)))]) ⟨hx, hb, hml, hown, hts⟩ hN hP hD hS hA (cJ13_bitCount_95d88_ct l D cI cL cC cZ (g_words x3.toNatClampNeg) u3 hu3) z3 [] [0, 1] [0, 1] rfl (by decide) rfl (by decide) (by decide) rfl (by decide) rfl hl.1 rfl (Nat.le_of_ble_eq_true rfl) dX6_numberAtPlace_15 ⟨Nat.zero_le _, Nat.zero_le _⟩ (fun H locs hP hD hS => ?_)
        refine lv_istore (lv' := [(4, .int u3), (0, .ref a_this), (2, .int x2), (3, .int x3)]) hx hb dX6_numberAtPlace_18 hl (by decide) rfl (fun ls hl => ?_)
        refine lv_iload_n hx hb dX6_numberAtPlace_20 rfl (lv_at hl 2 rfl) ?_
        refine lv_iload hx hb dX6_numberAtPlace_21 (lv_at hl 0 rfl) ?_
        refine lv_icmp_ge (tgt := 42) hx hb dX6_numberAtPlace_23 (by decide) (fun c4 => ?_) (fun c4 => ?_)
        · have hf := br_pos c4 hf
          refine lv_iload_n hx hb dX6_numberAtPlace_42 rfl (lv_at hl 2 rfl) ?_
          refine lv_iload hx hb dX6_numberAtPlace_43 (lv_at hl 0 rfl) ?_
          refine lv_isub hx hb dX6_numberAtPlace_45 ?_
          refine lv_topi (fun y5 ey5 => ?_)
          have hf := lt_some hf y5 ey5
          refine lv_istore_n (lv' := [(2, .int y5), (4, .int u3), (0, .ref a_this), (3, .int x3)]) hx hb dX6_numberAtPlace_46 rfl hl (by decide) rfl (fun ls hl => ?_)
          obtain ⟨y6, ey6⟩ : ∃ z : Int32, z = x3 + (1 : Int32) := ⟨_, rfl⟩
          have hf := lt_some hf y6 ey6
          refine lv_iinc (v := y6) (lv' := [(3, .int y6), (2, .int y5), (4, .int u3), (0, .ref a_this)]) hx hb dX6_numberAtPlace_47 hl (k := 3) rfl (by rw [ey6]; rfl) (by decide) rfl (fun ls hl => ?_)
          refine lv_goto (tgt := 4) hx hb dX6_numberAtPlace_50 (by decide) ?_
          cases hf
          exact ((congrFun eF4 _).mp hF) H locs ls hP hD hS (lv_sub hl [3, 1, 0] rfl)
        · have hf := br_neg c4 hf
          refine lv_bipush (v := 64) hx hb dX6_numberAtPlace_26 (by decide) ?_
          refine lv_iload_n hx hb dX6_numberAtPlace_28 rfl (lv_at hl 3 rfl) ?_
          refine lv_imul hx hb dX6_numberAtPlace_29 ?_
          refine lv_aload_n hx hb dX6_numberAtPlace_30 rfl (lv_at hl 1 rfl) ?_
          refine va_get (D := D) (ci := 6) (v := .ref a_words) (C := RX6) (T := TX6) (N := 1) hx hb hts z1 hown hN.1 hP 0 rfl rfl 0 (by decide) z2 (fun _ h9 => h9) rfl dX6_numberAtPlace_31 ?_
          refine lv_iload_n hx hb dX6_numberAtPlace_34 rfl (lv_at hl 3 rfl) ?_
          obtain ⟨c7, hf⟩ := gd_some hf
          refine va_lald hx hb hN.1 hP 1 1 rfl rfl (ix_in c7) dX6_numberAtPlace_35 ?_
          refine lv_iload_n hx hb dX6_numberAtPlace_36 rfl (lv_at hl 2 rfl) ?_
          obtain ⟨u8, hu8, hf⟩ := bd_some hf
          refine caNI (rest := [.int ((64 : Int32) * x3)]) (As := [.long (g_words x3.toNatClampNeg), .int x2]) (wr := [(a_this, .inr (6, [.ref a_words])), (a_words, .inl (cL, 4, .inr (.inl g_words)))]) (wo := [(a_this, .inr (6, [.ref a_words])), (a_words, .inl (cL, 4, .inr (.inl g_words)))]) ⟨hx, hb, hml, hown, hts⟩ hN hP hD hS hA (cX7_numberAt_ct l D cI cL cC cZ (g_words x3.toNatClampNeg) x2 u8 hu8) ⟨z4, z5, trivial⟩ [] [0, 1] [0, 1] rfl (by decide) rfl (by decide) (by decide) rfl (by decide) rfl hl.1 rfl (Nat.le_of_ble_eq_true rfl) dX6_numberAtPlace_37 ⟨Nat.zero_le _, Nat.zero_le _⟩ (fun H locs hP hD hS => ?_)
          refine lv_iadd hx hb dX6_numberAtPlace_40 ?_
          cases hf
          have hE : ((64 : Int32) * x3) + u8 = r0 := hF
          subst hE
          exact rtI hx hb hr hlk hP hD hS dX6_numberAtPlace_41
    intro x2 x3 t H locs ls hf hF hP hD hS hl
    exact ((congrFun eF4 _).mp (key ((x2, x3)) t hf hF)) H locs ls hP hD hS hl
  unfold fX6_numberAtPlace at hf
  obtain ⟨H, eH⟩ : ∃ z, z = s.heap := ⟨_, rfl⟩
  obtain ⟨locs, eL⟩ : ∃ z : List Loc, z = [] := ⟨_, rfl⟩
  have hP : va_P D vwCl [(a_this, .inr (6, [.ref a_words])), (a_words, .inl (cL, 4, .inr (.inl g_words)))] H := by rw [eH]; exact hP
  have hS : va_S A s.heap H locs := by rw [eH, eL]; exact hS
  suffices hG : W p l e rmX6_numberAtPlace s m ([.ref a_this, .int q1] : List Value).toArray below meth c H locs 0 0 (MQ below (cQi D r0 A [(a_this, .inr (6, [.ref a_words])), (a_words, .inl (cL, 4, .inr (.inl g_words)))]) ([.ref a_this, .int q1] : List Value).toArray s 0 0 A) (F0 m 0 ls []) by rw [eH, eL] at hG; exact hG
  refine lv_iload_n hx hb dX6_numberAtPlace_0 rfl (lv_at hl 1 rfl) ?_
  refine lv_istore_n (lv' := [(2, .int q1), (0, .ref a_this), (1, .int q1)]) hx hb dX6_numberAtPlace_1 rfl hl (by decide) rfl (fun ls hl => ?_)
  refine lv_iconst (v := 0) hx hb dX6_numberAtPlace_2 (by decide) ?_
  refine lv_istore_n (lv' := [(3, .int (0 : Int32)), (2, .int q1), (0, .ref a_this), (1, .int q1)]) hx hb dX6_numberAtPlace_3 rfl hl (by decide) rfl (fun ls hl => ?_)
  exact w4 g_words q1 (0 : Int32) r0 H locs ls hf rfl hP hD hS (lv_sub hl [2, 1, 0] rfl)
abbrev rmX7_write : Room := { frames := 1, cells := 0, slots := 0, locals := 21 }
noncomputable def fX7_write (q1 : Int32) (g_script_length : Int32) (g_script_letters : Nat → Int32) : Option (Int32 × Int32 × (Nat → Int32)) := br (q1 < (32 : Int32)) (some (((-1 : Int32), g_script_length, g_script_letters))) (br (q1 ≤ (126 : Int32)) (bd (fX3_append q1 g_script_length g_script_letters) (fun u3 => br (u3.1 = 0) (some (((-3 : Int32), u3.2.1, u3.2.2))) (bd (fX3_length u3.2.1) (fun u5 => some ((u5, u3.2.1, u3.2.2)))))) (some (((-1 : Int32), g_script_length, g_script_letters))))
set_option maxHeartbeats 4000000 in
set_option maxRecDepth 100000 in
theorem cX7_write_ct (l : Launch) (D : va_G) (cI cL cC cZ : ClassId) (a_this a_slots a_script a_history a_sums a_addend a_grids a_pairings a_swellings a_smallestSets a_script_letters a_script_sets : Nat) (g_script_length : Int32) (g_script_numbers : Int64) (g_script_letters : Nat → Int32) (q1 : Int32) (r0 : Int32) (v_script_length : Int32) (v_script_letters : Nat → Int32) (hf : fX7_write q1 g_script_length g_script_letters = some ((r0, v_script_length, v_script_letters))) : CtI l yX7_write wsX7_write rmX7_write D (tyz cI cL cC cZ) [.ref a_this, .int q1] [(a_this, .inr (7, [.ref a_slots, .ref a_script, .ref a_history, .ref a_sums, .ref a_addend, .ref a_grids, .ref a_pairings, .ref a_swellings, .ref a_smallestSets])), (a_script, .inr (3, [.ref a_script_letters, .ref a_script_sets, .int g_script_length, .long g_script_numbers])), (a_script_letters, .inl (cC, 200, .inl g_script_letters))] [(a_this, .inr (7, [.ref a_slots, .ref a_script, .ref a_history, .ref a_sums, .ref a_addend, .ref a_grids, .ref a_pairings, .ref a_swellings, .ref a_smallestSets])), (a_script, .inr (3, [.ref a_script_letters, .ref a_script_sets, .int v_script_length, .long g_script_numbers])), (a_script_letters, .inl (cC, 200, .inl v_script_letters))] r0 := by
  refine CtI.make (cc := cX7_write) (maxL := 2) (ty := .int) (by decide) rfl (Nat.le_of_ble_eq_true rfl) ?_
  intro p e s m below meth c A ls C0 hN hA hP hD hl
  obtain ⟨hx, hb, hr, hml, hown, hts, hlk⟩ := id C0
  have hown : s.vm.findClass RX7 = some m.cls := hown
  have hS : va_S A s.heap s.heap [] := va_S.rf
  have hP : va_P D vwCl [(a_this, .inr (7, [.ref a_slots, .ref a_script, .ref a_history, .ref a_sums, .ref a_addend, .ref a_grids, .ref a_pairings, .ref a_swellings, .ref a_smallestSets])), (a_script, .inr (3, [.ref a_script_letters, .ref a_script_sets, .int g_script_length, .long g_script_numbers])), (a_script_letters, .inl (cC, 200, .inl g_script_letters))] s.heap := hP
  have hD : va_D A [(a_this, .inr (7, [.ref a_slots, .ref a_script, .ref a_history, .ref a_sums, .ref a_addend, .ref a_grids, .ref a_pairings, .ref a_swellings, .ref a_smallestSets])), (a_script, .inr (3, [.ref a_script_letters, .ref a_script_sets, .int g_script_length, .long g_script_numbers])), (a_script_letters, .inl (cC, 200, .inl g_script_letters))] := hD
  have hl : lv_has ls 2 [(0, .ref a_this), (1, .int q1)] := hl
  have z1 : ∀ w ∈ u_ws RX7 TX7 9, w ∈ wsX7_write := by decide +kernel
  have z2 := hts (.fieldLink RX7 16 "LittleSums" "script" "LLittleSums$Script;") (by decide +kernel)
  have z3 := cwV (R := rmX7_write) (rm := rmX3_append) (mc := 0) (ms := 0) 1 hts gX7_write_X3_append rfl rfl rfl (by decide +kernel) ⟨Nat.le_of_ble_eq_true rfl, Nat.le_of_ble_eq_true rfl⟩
  have z4 := cwV (R := rmX7_write) (rm := rmX3_length) (mc := 0) (ms := 0) 0 hts gX7_write_X3_length rfl rfl rfl (by decide +kernel) ⟨Nat.le_of_ble_eq_true rfl, Nat.le_of_ble_eq_true rfl⟩
  unfold fX7_write at hf
  obtain ⟨H, eH⟩ : ∃ z, z = s.heap := ⟨_, rfl⟩
  obtain ⟨locs, eL⟩ : ∃ z : List Loc, z = [] := ⟨_, rfl⟩
  have hP : va_P D vwCl [(a_this, .inr (7, [.ref a_slots, .ref a_script, .ref a_history, .ref a_sums, .ref a_addend, .ref a_grids, .ref a_pairings, .ref a_swellings, .ref a_smallestSets])), (a_script, .inr (3, [.ref a_script_letters, .ref a_script_sets, .int g_script_length, .long g_script_numbers])), (a_script_letters, .inl (cC, 200, .inl g_script_letters))] H := by rw [eH]; exact hP
  have hS : va_S A s.heap H locs := by rw [eH, eL]; exact hS
  suffices hG : W p l e rmX7_write s m ([.ref a_this, .int q1] : List Value).toArray below meth c H locs 0 0 (MQ below (cQi D r0 A [(a_this, .inr (7, [.ref a_slots, .ref a_script, .ref a_history, .ref a_sums, .ref a_addend, .ref a_grids, .ref a_pairings, .ref a_swellings, .ref a_smallestSets])), (a_script, .inr (3, [.ref a_script_letters, .ref a_script_sets, .int v_script_length, .long g_script_numbers])), (a_script_letters, .inl (cC, 200, .inl v_script_letters))]) ([.ref a_this, .int q1] : List Value).toArray s 0 0 A) (F0 m 0 ls []) by rw [eH, eL] at hG; exact hG
  refine lv_iload_n hx hb dX7_write_0 rfl (lv_at hl 1 rfl) ?_
  refine lv_bipush (v := 32) hx hb dX7_write_1 (by decide) ?_
  refine lv_icmp_lt (tgt := 12) hx hb dX7_write_3 (by decide) (fun c1 => ?_) (fun c1 => ?_)
  · have hf := br_pos c1 hf
    refine lv_iconst (v := -1) hx hb dX7_write_12 (by decide) ?_
    have hE : ((-1 : Int32), g_script_length, g_script_letters) = (r0, v_script_length, v_script_letters) := Option.some.inj hf
    simp only [Prod.mk.injEq] at hE
    obtain ⟨rfl, rfl, rfl⟩ := hE
    exact rtI hx hb hr hlk hP hD hS dX7_write_13
  · have hf := br_neg c1 hf
    refine lv_iload_n hx hb dX7_write_6 rfl (lv_at hl 1 rfl) ?_
    refine lv_bipush (v := 126) hx hb dX7_write_7 (by decide) ?_
    refine lv_icmp_le (tgt := 14) hx hb dX7_write_9 (by decide) (fun c2 => ?_) (fun c2 => ?_)
    · have hf := br_pos c2 hf
      refine lv_aload_n hx hb dX7_write_14 rfl (lv_at hl 0 rfl) ?_
      refine va_get (D := D) (ci := 7) (v := .ref a_script) (C := RX7) (T := TX7) (N := 9) hx hb hts z1 hown hN.1 hP 0 rfl rfl 1 (by decide) z2 (fun _ h9 => h9) rfl dX7_write_15 ?_
      refine lv_iload_n hx hb dX7_write_18 rfl (lv_at hl 1 rfl) ?_
      obtain ⟨u3, hu3, hf⟩ := bd_some hf
      refine caVI (rest := []) (As := [.int q1]) (wr := [(a_this, .inr (7, [.ref a_slots, .ref a_script, .ref a_history, .ref a_sums, .ref a_addend, .ref a_grids, .ref a_pairings, .ref a_swellings, .ref a_smallestSets]))]) (wo := [(a_this, .inr (7, [.ref a_slots, .ref a_script, .ref a_history, .ref a_sums, .ref a_addend, .ref a_grids, .ref a_pairings, .ref a_swellings, .ref a_smallestSets])), (a_script, .inr (3, [.ref a_script_letters, .ref a_script_sets, .int u3.2.1, .long g_script_numbers])), (a_script_letters, .inl (cC, 200, .inl u3.2.2))]) ⟨hx, hb, hml, hown, hts⟩ hN hP hD hS hA (cX3_append_ct l D cI cL cC cZ a_script a_script_letters a_script_sets g_script_length g_script_numbers g_script_letters q1 u3.1 u3.2.1 u3.2.2 hu3) z3 1 3 rfl rfl [1, 2] [0] [0, 1, 2] rfl (by decide) rfl (by decide) (by decide) rfl (by decide) rfl hl.1 rfl (Nat.le_of_ble_eq_true rfl) dX7_write_19 ⟨Nat.zero_le _, Nat.zero_le _⟩ (fun H locs hP hD hS => ?_)
      refine lv_if_eq (tgt := 35) hx hb dX7_write_22 (by decide) (fun c4 => ?_) (fun c4 => ?_)
      · have hf := br_pos c4 hf
        refine lv_bipush (v := -3) hx hb dX7_write_35 (by decide) ?_
        have hE : ((-3 : Int32), u3.2.1, u3.2.2) = (r0, v_script_length, v_script_letters) := Option.some.inj hf
        simp only [Prod.mk.injEq] at hE
        obtain ⟨rfl, rfl, rfl⟩ := hE
        exact rtI hx hb hr hlk hP hD hS dX7_write_37
      · have hf := br_neg c4 hf
        refine lv_aload_n hx hb dX7_write_25 rfl (lv_at hl 0 rfl) ?_
        refine va_get (D := D) (ci := 7) (v := .ref a_script) (C := RX7) (T := TX7) (N := 9) hx hb hts z1 hown hN.1 hP 0 rfl rfl 1 (by decide) z2 (fun _ h9 => h9) rfl dX7_write_26 ?_
        obtain ⟨u5, hu5, hf⟩ := bd_some hf
        refine caVI (rest := []) (As := []) (wr := [(a_this, .inr (7, [.ref a_slots, .ref a_script, .ref a_history, .ref a_sums, .ref a_addend, .ref a_grids, .ref a_pairings, .ref a_swellings, .ref a_smallestSets])), (a_script_letters, .inl (cC, 200, .inl u3.2.2))]) (wo := [(a_this, .inr (7, [.ref a_slots, .ref a_script, .ref a_history, .ref a_sums, .ref a_addend, .ref a_grids, .ref a_pairings, .ref a_swellings, .ref a_smallestSets])), (a_script, .inr (3, [.ref a_script_letters, .ref a_script_sets, .int u3.2.1, .long g_script_numbers])), (a_script_letters, .inl (cC, 200, .inl u3.2.2))]) ⟨hx, hb, hml, hown, hts⟩ hN hP hD hS hA (cX3_length_ct l D cI cL cC cZ a_script a_script_letters a_script_sets u3.2.1 g_script_numbers u5 hu5) z4 1 3 rfl rfl [1] [0, 2] [0, 2, 1] rfl (by decide) rfl (by decide) (by decide) rfl (by decide) rfl hl.1 rfl (Nat.le_of_ble_eq_true rfl) dX7_write_29 ⟨Nat.zero_le _, Nat.zero_le _⟩ (fun H locs hP hD hS => ?_)
        refine lv_goto (tgt := 37) hx hb dX7_write_32 (by decide) ?_
        have hE : (u5, u3.2.1, u3.2.2) = (r0, v_script_length, v_script_letters) := Option.some.inj hf
        simp only [Prod.mk.injEq] at hE
        obtain ⟨rfl, rfl, rfl⟩ := hE
        exact rtI hx hb hr hlk hP hD hS dX7_write_37
    · have hf := br_neg c2 hf
      refine lv_iconst (v := -1) hx hb dX7_write_12 (by decide) ?_
      have hE : ((-1 : Int32), g_script_length, g_script_letters) = (r0, v_script_length, v_script_letters) := Option.some.inj hf
      simp only [Prod.mk.injEq] at hE
      obtain ⟨rfl, rfl, rfl⟩ := hE
      exact rtI hx hb hr hlk hP hD hS dX7_write_13
abbrev rmX7_wipe : Room := { frames := 1, cells := 0, slots := 0, locals := 20 }
noncomputable def fX7_wipe (g_script_length : Int32) : Option (Int32 × Int32) := bd (fX3_length g_script_length) (fun u1 => bd (fX3_clear g_script_length) (fun u2 => some ((u1, u2))))
set_option maxHeartbeats 4000000 in
set_option maxRecDepth 100000 in
theorem cX7_wipe_ct (l : Launch) (D : va_G) (cI cL cC cZ : ClassId) (a_this a_slots a_script a_history a_sums a_addend a_grids a_pairings a_swellings a_smallestSets a_script_letters a_script_sets : Nat) (g_script_length : Int32) (g_script_numbers : Int64) (r0 : Int32) (v_script_length : Int32) (hf : fX7_wipe g_script_length = some ((r0, v_script_length))) : CtI l yX7_wipe wsX7_wipe rmX7_wipe D (tyz cI cL cC cZ) [.ref a_this] [(a_this, .inr (7, [.ref a_slots, .ref a_script, .ref a_history, .ref a_sums, .ref a_addend, .ref a_grids, .ref a_pairings, .ref a_swellings, .ref a_smallestSets])), (a_script, .inr (3, [.ref a_script_letters, .ref a_script_sets, .int g_script_length, .long g_script_numbers]))] [(a_this, .inr (7, [.ref a_slots, .ref a_script, .ref a_history, .ref a_sums, .ref a_addend, .ref a_grids, .ref a_pairings, .ref a_swellings, .ref a_smallestSets])), (a_script, .inr (3, [.ref a_script_letters, .ref a_script_sets, .int v_script_length, .long g_script_numbers]))] r0 := by
  refine CtI.make (cc := cX7_wipe) (maxL := 2) (ty := .int) (by decide) rfl (Nat.le_of_ble_eq_true rfl) ?_
  intro p e s m below meth c A ls C0 hN hA hP hD hl
  obtain ⟨hx, hb, hr, hml, hown, hts, hlk⟩ := id C0
  have hown : s.vm.findClass RX7 = some m.cls := hown
  have hS : va_S A s.heap s.heap [] := va_S.rf
  have hP : va_P D vwCl [(a_this, .inr (7, [.ref a_slots, .ref a_script, .ref a_history, .ref a_sums, .ref a_addend, .ref a_grids, .ref a_pairings, .ref a_swellings, .ref a_smallestSets])), (a_script, .inr (3, [.ref a_script_letters, .ref a_script_sets, .int g_script_length, .long g_script_numbers]))] s.heap := hP
  have hD : va_D A [(a_this, .inr (7, [.ref a_slots, .ref a_script, .ref a_history, .ref a_sums, .ref a_addend, .ref a_grids, .ref a_pairings, .ref a_swellings, .ref a_smallestSets])), (a_script, .inr (3, [.ref a_script_letters, .ref a_script_sets, .int g_script_length, .long g_script_numbers]))] := hD
  have hl : lv_has ls 2 [(0, .ref a_this)] := hl
  have z1 : ∀ w ∈ u_ws RX7 TX7 9, w ∈ wsX7_wipe := by decide +kernel
  have z2 := hts (.fieldLink RX7 16 "LittleSums" "script" "LLittleSums$Script;") (by decide +kernel)
  have z3 := cwV (R := rmX7_wipe) (rm := rmX3_length) (mc := 0) (ms := 0) 0 hts gX7_wipe_X3_length rfl rfl rfl (by decide +kernel) ⟨Nat.le_of_ble_eq_true rfl, Nat.le_of_ble_eq_true rfl⟩
  have z4 := cwV (R := rmX7_wipe) (rm := rmX3_clear) (mc := 0) (ms := 0) 0 hts gX7_wipe_X3_clear rfl rfl rfl (by decide +kernel) ⟨Nat.le_of_ble_eq_true rfl, Nat.le_of_ble_eq_true rfl⟩
  unfold fX7_wipe at hf
  obtain ⟨H, eH⟩ : ∃ z, z = s.heap := ⟨_, rfl⟩
  obtain ⟨locs, eL⟩ : ∃ z : List Loc, z = [] := ⟨_, rfl⟩
  have hP : va_P D vwCl [(a_this, .inr (7, [.ref a_slots, .ref a_script, .ref a_history, .ref a_sums, .ref a_addend, .ref a_grids, .ref a_pairings, .ref a_swellings, .ref a_smallestSets])), (a_script, .inr (3, [.ref a_script_letters, .ref a_script_sets, .int g_script_length, .long g_script_numbers]))] H := by rw [eH]; exact hP
  have hS : va_S A s.heap H locs := by rw [eH, eL]; exact hS
  suffices hG : W p l e rmX7_wipe s m ([.ref a_this] : List Value).toArray below meth c H locs 0 0 (MQ below (cQi D r0 A [(a_this, .inr (7, [.ref a_slots, .ref a_script, .ref a_history, .ref a_sums, .ref a_addend, .ref a_grids, .ref a_pairings, .ref a_swellings, .ref a_smallestSets])), (a_script, .inr (3, [.ref a_script_letters, .ref a_script_sets, .int v_script_length, .long g_script_numbers]))]) ([.ref a_this] : List Value).toArray s 0 0 A) (F0 m 0 ls []) by rw [eH, eL] at hG; exact hG
  refine lv_aload_n hx hb dX7_wipe_0 rfl (lv_at hl 0 rfl) ?_
  refine va_get (D := D) (ci := 7) (v := .ref a_script) (C := RX7) (T := TX7) (N := 9) hx hb hts z1 hown hN.1 hP 0 rfl rfl 1 (by decide) z2 (fun _ h9 => h9) rfl dX7_wipe_1 ?_
  obtain ⟨u1, hu1, hf⟩ := bd_some hf
  refine caVI (rest := []) (As := []) (wr := [(a_this, .inr (7, [.ref a_slots, .ref a_script, .ref a_history, .ref a_sums, .ref a_addend, .ref a_grids, .ref a_pairings, .ref a_swellings, .ref a_smallestSets]))]) (wo := [(a_this, .inr (7, [.ref a_slots, .ref a_script, .ref a_history, .ref a_sums, .ref a_addend, .ref a_grids, .ref a_pairings, .ref a_swellings, .ref a_smallestSets])), (a_script, .inr (3, [.ref a_script_letters, .ref a_script_sets, .int g_script_length, .long g_script_numbers]))]) ⟨hx, hb, hml, hown, hts⟩ hN hP hD hS hA (cX3_length_ct l D cI cL cC cZ a_script a_script_letters a_script_sets g_script_length g_script_numbers u1 hu1) z3 1 3 rfl rfl [1] [0] [0, 1] rfl (by decide) rfl (by decide) (by decide) rfl (by decide) rfl hl.1 rfl (Nat.le_of_ble_eq_true rfl) dX7_wipe_4 ⟨Nat.zero_le _, Nat.zero_le _⟩ (fun H locs hP hD hS => ?_)
  refine lv_istore_n (lv' := [(1, .int u1), (0, .ref a_this)]) hx hb dX7_wipe_7 rfl hl (by decide) rfl (fun ls hl => ?_)
  refine lv_aload_n hx hb dX7_wipe_8 rfl (lv_at hl 1 rfl) ?_
  refine va_get (D := D) (ci := 7) (v := .ref a_script) (C := RX7) (T := TX7) (N := 9) hx hb hts z1 hown hN.1 hP 0 rfl rfl 1 (by decide) z2 (fun _ h9 => h9) rfl dX7_wipe_9 ?_
  obtain ⟨u2, hu2, hf⟩ := bd_some hf
  refine caVV (rest := []) (As := []) (wr := [(a_this, .inr (7, [.ref a_slots, .ref a_script, .ref a_history, .ref a_sums, .ref a_addend, .ref a_grids, .ref a_pairings, .ref a_swellings, .ref a_smallestSets]))]) (wo := [(a_this, .inr (7, [.ref a_slots, .ref a_script, .ref a_history, .ref a_sums, .ref a_addend, .ref a_grids, .ref a_pairings, .ref a_swellings, .ref a_smallestSets])), (a_script, .inr (3, [.ref a_script_letters, .ref a_script_sets, .int u2, .long g_script_numbers]))]) ⟨hx, hb, hml, hown, hts⟩ hN hP hD hS hA (cX3_clear_ct l D cI cL cC cZ a_script a_script_letters a_script_sets g_script_length g_script_numbers u2 hu2) z4 1 3 rfl rfl [1] [0] [0, 1] rfl (by decide) rfl (by decide) (by decide) rfl (by decide) rfl hl.1 rfl (Nat.le_of_ble_eq_true rfl) dX7_wipe_12 ⟨Nat.zero_le _, Nat.zero_le _⟩ (fun H locs hP hD hS => ?_)
  refine lv_iload_n hx hb dX7_wipe_15 rfl (lv_at hl 0 rfl) ?_
  have hE : (u1, u2) = (r0, v_script_length) := Option.some.inj hf
  simp only [Prod.mk.injEq] at hE
  obtain ⟨rfl, rfl⟩ := hE
  exact rtI hx hb hr hlk hP hD hS dX7_wipe_16
abbrev rmX7_fault : Room := { frames := 6, cells := 0, slots := 0, locals := 136 }
noncomputable def fX7_fault (g_script_length : Int32) (g_script_numbers : Int64) (g_script_letters : Nat → Int32) (g_script_sets : Nat → Int64) : Option (Int32 × Int64 × (Nat → Int64)) := bd (fX3_read g_script_length g_script_numbers g_script_letters g_script_sets) (fun u1 => some ((u1.1, u1.2.1, u1.2.2)))
set_option maxHeartbeats 4000000 in
set_option maxRecDepth 100000 in
theorem cX7_fault_ct (l : Launch) (D : va_G) (cI cL cC cZ : ClassId) (a_this a_slots a_script a_history a_sums a_addend a_grids a_pairings a_swellings a_smallestSets a_script_letters a_script_sets : Nat) (g_script_length : Int32) (g_script_numbers : Int64) (g_script_letters : Nat → Int32) (g_script_sets : Nat → Int64) (r0 : Int32) (v_script_numbers : Int64) (v_script_sets : Nat → Int64) (hf : fX7_fault g_script_length g_script_numbers g_script_letters g_script_sets = some ((r0, v_script_numbers, v_script_sets))) : CtI l yX7_fault wsX7_fault rmX7_fault D (tyz cI cL cC cZ) [.ref a_this] [(a_this, .inr (7, [.ref a_slots, .ref a_script, .ref a_history, .ref a_sums, .ref a_addend, .ref a_grids, .ref a_pairings, .ref a_swellings, .ref a_smallestSets])), (a_script, .inr (3, [.ref a_script_letters, .ref a_script_sets, .int g_script_length, .long g_script_numbers])), (a_script_letters, .inl (cC, 200, .inl g_script_letters)), (a_script_sets, .inl (cL, 4, .inr (.inl g_script_sets)))] [(a_this, .inr (7, [.ref a_slots, .ref a_script, .ref a_history, .ref a_sums, .ref a_addend, .ref a_grids, .ref a_pairings, .ref a_swellings, .ref a_smallestSets])), (a_script, .inr (3, [.ref a_script_letters, .ref a_script_sets, .int g_script_length, .long v_script_numbers])), (a_script_letters, .inl (cC, 200, .inl g_script_letters)), (a_script_sets, .inl (cL, 4, .inr (.inl v_script_sets)))] r0 := by
  refine CtI.make (cc := cX7_fault) (maxL := 1) (ty := .int) (by decide) rfl (Nat.le_of_ble_eq_true rfl) ?_
  intro p e s m below meth c A ls C0 hN hA hP hD hl
  obtain ⟨hx, hb, hr, hml, hown, hts, hlk⟩ := id C0
  have hown : s.vm.findClass RX7 = some m.cls := hown
  have hS : va_S A s.heap s.heap [] := va_S.rf
  have hP : va_P D vwCl [(a_this, .inr (7, [.ref a_slots, .ref a_script, .ref a_history, .ref a_sums, .ref a_addend, .ref a_grids, .ref a_pairings, .ref a_swellings, .ref a_smallestSets])), (a_script, .inr (3, [.ref a_script_letters, .ref a_script_sets, .int g_script_length, .long g_script_numbers])), (a_script_letters, .inl (cC, 200, .inl g_script_letters)), (a_script_sets, .inl (cL, 4, .inr (.inl g_script_sets)))] s.heap := hP
  have hD : va_D A [(a_this, .inr (7, [.ref a_slots, .ref a_script, .ref a_history, .ref a_sums, .ref a_addend, .ref a_grids, .ref a_pairings, .ref a_swellings, .ref a_smallestSets])), (a_script, .inr (3, [.ref a_script_letters, .ref a_script_sets, .int g_script_length, .long g_script_numbers])), (a_script_letters, .inl (cC, 200, .inl g_script_letters)), (a_script_sets, .inl (cL, 4, .inr (.inl g_script_sets)))] := hD
  have hl : lv_has ls 1 [(0, .ref a_this)] := hl
  have z1 : ∀ w ∈ u_ws RX7 TX7 9, w ∈ wsX7_fault := by decide +kernel
  have z2 := hts (.fieldLink RX7 16 "LittleSums" "script" "LLittleSums$Script;") (by decide +kernel)
  have z3 := cwV (R := rmX7_fault) (rm := rmX3_read) (mc := 0) (ms := 0) 0 hts gX7_fault_X3_read rfl rfl rfl (by decide +kernel) ⟨Nat.le_of_ble_eq_true rfl, Nat.le_of_ble_eq_true rfl⟩
  unfold fX7_fault at hf
  obtain ⟨H, eH⟩ : ∃ z, z = s.heap := ⟨_, rfl⟩
  obtain ⟨locs, eL⟩ : ∃ z : List Loc, z = [] := ⟨_, rfl⟩
  have hP : va_P D vwCl [(a_this, .inr (7, [.ref a_slots, .ref a_script, .ref a_history, .ref a_sums, .ref a_addend, .ref a_grids, .ref a_pairings, .ref a_swellings, .ref a_smallestSets])), (a_script, .inr (3, [.ref a_script_letters, .ref a_script_sets, .int g_script_length, .long g_script_numbers])), (a_script_letters, .inl (cC, 200, .inl g_script_letters)), (a_script_sets, .inl (cL, 4, .inr (.inl g_script_sets)))] H := by rw [eH]; exact hP
  have hS : va_S A s.heap H locs := by rw [eH, eL]; exact hS
  suffices hG : W p l e rmX7_fault s m ([.ref a_this] : List Value).toArray below meth c H locs 0 0 (MQ below (cQi D r0 A [(a_this, .inr (7, [.ref a_slots, .ref a_script, .ref a_history, .ref a_sums, .ref a_addend, .ref a_grids, .ref a_pairings, .ref a_swellings, .ref a_smallestSets])), (a_script, .inr (3, [.ref a_script_letters, .ref a_script_sets, .int g_script_length, .long v_script_numbers])), (a_script_letters, .inl (cC, 200, .inl g_script_letters)), (a_script_sets, .inl (cL, 4, .inr (.inl v_script_sets)))]) ([.ref a_this] : List Value).toArray s 0 0 A) (F0 m 0 ls []) by rw [eH, eL] at hG; exact hG
  refine lv_aload_n hx hb dX7_fault_0 rfl (lv_at hl 0 rfl) ?_
  refine va_get (D := D) (ci := 7) (v := .ref a_script) (C := RX7) (T := TX7) (N := 9) hx hb hts z1 hown hN.1 hP 0 rfl rfl 1 (by decide) z2 (fun _ h9 => h9) rfl dX7_fault_1 ?_
  obtain ⟨u1, hu1, hf⟩ := bd_some hf
  refine caVI (rest := []) (As := []) (wr := [(a_this, .inr (7, [.ref a_slots, .ref a_script, .ref a_history, .ref a_sums, .ref a_addend, .ref a_grids, .ref a_pairings, .ref a_swellings, .ref a_smallestSets]))]) (wo := [(a_this, .inr (7, [.ref a_slots, .ref a_script, .ref a_history, .ref a_sums, .ref a_addend, .ref a_grids, .ref a_pairings, .ref a_swellings, .ref a_smallestSets])), (a_script, .inr (3, [.ref a_script_letters, .ref a_script_sets, .int g_script_length, .long u1.2.1])), (a_script_letters, .inl (cC, 200, .inl g_script_letters)), (a_script_sets, .inl (cL, 4, .inr (.inl u1.2.2)))]) ⟨hx, hb, hml, hown, hts⟩ hN hP hD hS hA (cX3_read_ct l D cI cL cC cZ a_script a_script_letters a_script_sets g_script_length g_script_numbers g_script_letters g_script_sets u1.1 u1.2.1 u1.2.2 hu1) z3 1 3 rfl rfl [1, 2, 3] [0] [0, 1, 2, 3] rfl (by decide) rfl (by decide) (by decide) rfl (by decide) rfl hl.1 rfl (Nat.le_of_ble_eq_true rfl) dX7_fault_4 ⟨Nat.zero_le _, Nat.zero_le _⟩ (fun H locs hP hD hS => ?_)
  have hE : (u1.1, u1.2.1, u1.2.2) = (r0, v_script_numbers, v_script_sets) := Option.some.inj hf
  simp only [Prod.mk.injEq] at hE
  obtain ⟨rfl, rfl, rfl⟩ := hE
  exact rtI hx hb hr hlk hP hD hS dX7_fault_7
abbrev rmX7_slotsInUse : Room := { frames := 0, cells := 0, slots := 0, locals := 0 }
noncomputable def bX7_slotsInUse_23 (x1 : Int32) (x2 : Int32) (g_slots : Nat → Int64) : Option ((Int32 × Int32) ⊕ (Int32)) := lt_ (x2 + (1 : Int32)) (fun y1 => some (Sum.inl ((x1, y1))))
noncomputable def bX7_slotsInUse_4 (g_slots : Nat → Int64) (x1 : Int32) (x2 : Int32) : Option ((Int32 × Int32) ⊕ (Int32)) := br ((4 : Int32) ≤ x2) (some (Sum.inr (x1))) (gd (¬ x2 < 0 ∧ x2.toNatClampNeg < 4) (br ((lg_cmp (g_slots x2.toNatClampNeg) (0 : Int64)) = 0) (bX7_slotsInUse_23 x1 x2 g_slots) (lt_ (x1 + (1 : Int32)) (fun y5 => bX7_slotsInUse_23 y5 x2 g_slots))))
noncomputable def sX7_slotsInUse_4 (g_slots : Nat → Int64) : (Int32 × Int32) → Option ((Int32 × Int32) ⊕ (Int32)) := fun q => bX7_slotsInUse_4 g_slots q.1 q.2
noncomputable def fX7_slotsInUse (g_slots : Nat → Int64) : Option (Int32) := run (sX7_slotsInUse_4 g_slots) (((0 : Int32), (0 : Int32)))
set_option maxHeartbeats 4000000 in
set_option maxRecDepth 100000 in
theorem cX7_slotsInUse_ct (l : Launch) (D : va_G) (cI cL cC cZ : ClassId) (a_this a_slots a_script a_history a_sums a_addend a_grids a_pairings a_swellings a_smallestSets : Nat) (g_slots : Nat → Int64) (r0 : Int32) (hf : fX7_slotsInUse g_slots = some r0) : CtI l yX7_slotsInUse wsX7_slotsInUse rmX7_slotsInUse D (tyz cI cL cC cZ) [.ref a_this] [(a_this, .inr (7, [.ref a_slots, .ref a_script, .ref a_history, .ref a_sums, .ref a_addend, .ref a_grids, .ref a_pairings, .ref a_swellings, .ref a_smallestSets])), (a_slots, .inl (cL, 4, .inr (.inl g_slots)))] [(a_this, .inr (7, [.ref a_slots, .ref a_script, .ref a_history, .ref a_sums, .ref a_addend, .ref a_grids, .ref a_pairings, .ref a_swellings, .ref a_smallestSets])), (a_slots, .inl (cL, 4, .inr (.inl g_slots)))] r0 := by
  refine CtI.make (cc := cX7_slotsInUse) (maxL := 3) (ty := .int) (by decide) rfl (Nat.le_of_ble_eq_true rfl) ?_
  intro p e s m below meth c A ls C0 hN hA hP hD hl
  obtain ⟨hx, hb, hr, hml, hown, hts, hlk⟩ := id C0
  have hown : s.vm.findClass RX7 = some m.cls := hown
  have hS : va_S A s.heap s.heap [] := va_S.rf
  have hP : va_P D vwCl [(a_this, .inr (7, [.ref a_slots, .ref a_script, .ref a_history, .ref a_sums, .ref a_addend, .ref a_grids, .ref a_pairings, .ref a_swellings, .ref a_smallestSets])), (a_slots, .inl (cL, 4, .inr (.inl g_slots)))] s.heap := hP
  have hD : va_D A [(a_this, .inr (7, [.ref a_slots, .ref a_script, .ref a_history, .ref a_sums, .ref a_addend, .ref a_grids, .ref a_pairings, .ref a_swellings, .ref a_smallestSets])), (a_slots, .inl (cL, 4, .inr (.inl g_slots)))] := hD
  have hl : lv_has ls 3 [(0, .ref a_this)] := hl
  have z1 : ∀ w ∈ u_ws RX7 TX7 9, w ∈ wsX7_slotsInUse := by decide +kernel
  have z2 := hts (.fieldLink RX7 9 "LittleSums" "slots" "[J") (by decide +kernel)
  have w4 : ∀ (g_slots : Nat → Int64) (x1 : Int32) (x2 : Int32) (t : Int32) (H : Heap) (locs : List Loc) (ls : Array Slot), run (sX7_slotsInUse_4 g_slots) ((x1, x2)) = some t → (fun z => z = r0) t → va_P D vwCl [(a_this, .inr (7, [.ref a_slots, .ref a_script, .ref a_history, .ref a_sums, .ref a_addend, .ref a_grids, .ref a_pairings, .ref a_swellings, .ref a_smallestSets])), (a_slots, .inl (cL, 4, .inr (.inl g_slots)))] H → va_D A [(a_this, .inr (7, [.ref a_slots, .ref a_script, .ref a_history, .ref a_sums, .ref a_addend, .ref a_grids, .ref a_pairings, .ref a_swellings, .ref a_smallestSets])), (a_slots, .inl (cL, 4, .inr (.inl g_slots)))] → va_S A s.heap H locs → lv_has ls 3 [(0, .ref a_this), (1, .int x1), (2, .int x2)] → W p l e rmX7_slotsInUse s m ([.ref a_this] : List Value).toArray below meth c H locs 0 0 (MQ below (cQi D r0 A [(a_this, .inr (7, [.ref a_slots, .ref a_script, .ref a_history, .ref a_sums, .ref a_addend, .ref a_grids, .ref a_pairings, .ref a_swellings, .ref a_smallestSets])), (a_slots, .inl (cL, 4, .inr (.inl g_slots)))]) ([.ref a_this] : List Value).toArray s 0 0 A) (F0 m 4 ls []) := by
    intro g_slots
    obtain ⟨F4, eF4⟩ : ∃ F : (Int32 × Int32) → Prop, F = fun q => ∀ (H : Heap) (locs : List Loc) (ls : Array Slot), va_P D vwCl [(a_this, .inr (7, [.ref a_slots, .ref a_script, .ref a_history, .ref a_sums, .ref a_addend, .ref a_grids, .ref a_pairings, .ref a_swellings, .ref a_smallestSets])), (a_slots, .inl (cL, 4, .inr (.inl g_slots)))] H → va_D A [(a_this, .inr (7, [.ref a_slots, .ref a_script, .ref a_history, .ref a_sums, .ref a_addend, .ref a_grids, .ref a_pairings, .ref a_swellings, .ref a_smallestSets])), (a_slots, .inl (cL, 4, .inr (.inl g_slots)))] → va_S A s.heap H locs → lv_has ls 3 [(0, .ref a_this), (1, .int q.1), (2, .int q.2)] → W p l e rmX7_slotsInUse s m ([.ref a_this] : List Value).toArray below meth c H locs 0 0 (MQ below (cQi D r0 A [(a_this, .inr (7, [.ref a_slots, .ref a_script, .ref a_history, .ref a_sums, .ref a_addend, .ref a_grids, .ref a_pairings, .ref a_swellings, .ref a_smallestSets])), (a_slots, .inl (cL, 4, .inr (.inl g_slots)))]) ([.ref a_this] : List Value).toArray s 0 0 A) (F0 m 4 ls []) := ⟨_, rfl⟩
    have key : ∀ (q : Int32 × Int32) (t : Int32), run (sX7_slotsInUse_4 g_slots) q = some t → (fun z => z = r0) t → F4 q := by
      refine loop_rule (sX7_slotsInUse_4 g_slots) F4 (fun z => z = r0) ?_
      intro q t hf hF
      have hF : (Sum.elim F4 (fun z => z = r0)) t := hF
      have w23 : ∀ (x1 : Int32) (x2 : Int32) (t : (Int32 × Int32) ⊕ (Int32)) (H : Heap) (locs : List Loc) (ls : Array Slot), bX7_slotsInUse_23 x1 x2 g_slots = some t → (Sum.elim F4 (fun z => z = r0)) t → va_P D vwCl [(a_this, .inr (7, [.ref a_slots, .ref a_script, .ref a_history, .ref a_sums, .ref a_addend, .ref a_grids, .ref a_pairings, .ref a_swellings, .ref a_smallestSets])), (a_slots, .inl (cL, 4, .inr (.inl g_slots)))] H → va_D A [(a_this, .inr (7, [.ref a_slots, .ref a_script, .ref a_history, .ref a_sums, .ref a_addend, .ref a_grids, .ref a_pairings, .ref a_swellings, .ref a_smallestSets])), (a_slots, .inl (cL, 4, .inr (.inl g_slots)))] → va_S A s.heap H locs → lv_has ls 3 [(0, .ref a_this), (1, .int x1), (2, .int x2)] → W p l e rmX7_slotsInUse s m ([.ref a_this] : List Value).toArray below meth c H locs 0 0 (MQ below (cQi D r0 A [(a_this, .inr (7, [.ref a_slots, .ref a_script, .ref a_history, .ref a_sums, .ref a_addend, .ref a_grids, .ref a_pairings, .ref a_swellings, .ref a_smallestSets])), (a_slots, .inl (cL, 4, .inr (.inl g_slots)))]) ([.ref a_this] : List Value).toArray s 0 0 A) (F0 m 23 ls []) := by
        intro x1 x2 t H locs ls hf hF hP hD hS hl
        unfold bX7_slotsInUse_23 at hf
        obtain ⟨y1, ey1⟩ : ∃ z : Int32, z = x2 + (1 : Int32) := ⟨_, rfl⟩
        have hf := lt_some hf y1 ey1
        refine lv_iinc (v := y1) (lv' := [(2, .int y1), (0, .ref a_this), (1, .int x1)]) hx hb dX7_slotsInUse_23 hl (k := 2) rfl (by rw [ey1]; rfl) (by decide) rfl (fun ls hl => ?_)
        refine lv_goto (tgt := 4) hx hb dX7_slotsInUse_26 (by decide) ?_
        cases hf
        exact ((congrFun eF4 _).mp hF) H locs ls hP hD hS (lv_sub hl [1, 2, 0] rfl)
      rw [eF4]
      obtain ⟨x1, x2⟩ := q
      intro H locs ls hP hD hS hl
      have hP : va_P D vwCl [(a_this, .inr (7, [.ref a_slots, .ref a_script, .ref a_history, .ref a_sums, .ref a_addend, .ref a_grids, .ref a_pairings, .ref a_swellings, .ref a_smallestSets])), (a_slots, .inl (cL, 4, .inr (.inl g_slots)))] H := hP
      have hD : va_D A [(a_this, .inr (7, [.ref a_slots, .ref a_script, .ref a_history, .ref a_sums, .ref a_addend, .ref a_grids, .ref a_pairings, .ref a_swellings, .ref a_smallestSets])), (a_slots, .inl (cL, 4, .inr (.inl g_slots)))] := hD
      have hl : lv_has ls 3 [(0, .ref a_this), (1, .int x1), (2, .int x2)] := hl
      have hf : bX7_slotsInUse_4 g_slots x1 x2 = some t := hf
      unfold bX7_slotsInUse_4 at hf
      refine lv_iload_n hx hb dX7_slotsInUse_4 rfl (lv_at hl 2 rfl) ?_
      refine lv_iconst (v := 4) hx hb dX7_slotsInUse_5 (by decide) ?_
      refine lv_icmp_ge (tgt := 29) hx hb dX7_slotsInUse_6 (by decide) (fun c2 => ?_) (fun c2 => ?_)
      · have hf := br_pos c2 hf
        refine lv_iload_n hx hb dX7_slotsInUse_29 rfl (lv_at hl 1 rfl) ?_
        cases hf
        have hE : x1 = r0 := hF
        subst hE
        exact rtI hx hb hr hlk hP hD hS dX7_slotsInUse_30
      · have hf := br_neg c2 hf
        refine lv_aload_n hx hb dX7_slotsInUse_9 rfl (lv_at hl 0 rfl) ?_
        refine va_get (D := D) (ci := 7) (v := .ref a_slots) (C := RX7) (T := TX7) (N := 9) hx hb hts z1 hown hN.1 hP 0 rfl rfl 0 (by decide) z2 (fun _ h9 => h9) rfl dX7_slotsInUse_10 ?_
        refine lv_iload_n hx hb dX7_slotsInUse_13 rfl (lv_at hl 2 rfl) ?_
        obtain ⟨c3, hf⟩ := gd_some hf
        refine va_lald hx hb hN.1 hP 1 1 rfl rfl (ix_in c3) dX7_slotsInUse_14 ?_
        refine lv_lconst (v := 0) hx hb dX7_slotsInUse_15 (by decide) ?_
        refine W.lcmp hx hb dX7_slotsInUse_16 ?_
        refine lv_if_eq (tgt := 23) hx hb dX7_slotsInUse_17 (by decide) (fun c4 => ?_) (fun c4 => ?_)
        · have hf := br_pos c4 hf
          exact w23 x1 x2 _ H locs ls hf hF hP hD hS (lv_sub hl [0, 1, 2] rfl)
        · have hf := br_neg c4 hf
          obtain ⟨y5, ey5⟩ : ∃ z : Int32, z = x1 + (1 : Int32) := ⟨_, rfl⟩
          have hf := lt_some hf y5 ey5
          refine lv_iinc (v := y5) (lv' := [(1, .int y5), (0, .ref a_this), (2, .int x2)]) hx hb dX7_slotsInUse_20 hl (k := 1) rfl (by rw [ey5]; rfl) (by decide) rfl (fun ls hl => ?_)
          exact w23 y5 x2 _ H locs ls hf hF hP hD hS (lv_sub hl [1, 0, 2] rfl)
    intro x1 x2 t H locs ls hf hF hP hD hS hl
    exact ((congrFun eF4 _).mp (key ((x1, x2)) t hf hF)) H locs ls hP hD hS hl
  unfold fX7_slotsInUse at hf
  obtain ⟨H, eH⟩ : ∃ z, z = s.heap := ⟨_, rfl⟩
  obtain ⟨locs, eL⟩ : ∃ z : List Loc, z = [] := ⟨_, rfl⟩
  have hP : va_P D vwCl [(a_this, .inr (7, [.ref a_slots, .ref a_script, .ref a_history, .ref a_sums, .ref a_addend, .ref a_grids, .ref a_pairings, .ref a_swellings, .ref a_smallestSets])), (a_slots, .inl (cL, 4, .inr (.inl g_slots)))] H := by rw [eH]; exact hP
  have hS : va_S A s.heap H locs := by rw [eH, eL]; exact hS
  suffices hG : W p l e rmX7_slotsInUse s m ([.ref a_this] : List Value).toArray below meth c H locs 0 0 (MQ below (cQi D r0 A [(a_this, .inr (7, [.ref a_slots, .ref a_script, .ref a_history, .ref a_sums, .ref a_addend, .ref a_grids, .ref a_pairings, .ref a_swellings, .ref a_smallestSets])), (a_slots, .inl (cL, 4, .inr (.inl g_slots)))]) ([.ref a_this] : List Value).toArray s 0 0 A) (F0 m 0 ls []) by rw [eH, eL] at hG; exact hG
  refine lv_iconst (v := 0) hx hb dX7_slotsInUse_0 (by decide) ?_
  refine lv_istore_n (lv' := [(1, .int (0 : Int32)), (0, .ref a_this)]) hx hb dX7_slotsInUse_1 rfl hl (by decide) rfl (fun ls hl => ?_)
  refine lv_iconst (v := 0) hx hb dX7_slotsInUse_2 (by decide) ?_
  refine lv_istore_n (lv' := [(2, .int (0 : Int32)), (1, .int (0 : Int32)), (0, .ref a_this)]) hx hb dX7_slotsInUse_3 rfl hl (by decide) rfl (fun ls hl => ?_)
  exact w4 g_slots (0 : Int32) (0 : Int32) r0 H locs ls hf rfl hP hD hS (lv_sub hl [2, 1, 0] rfl)
abbrev rmX7_lay : Room := { frames := 6, cells := 0, slots := 0, locals := 136 }
noncomputable def bX7_lay_17 (g_script_length : Int32) (g_script_numbers : Int64) (g_script_letters : Nat → Int32) (g_script_sets : Nat → Int64) (g_history_size : Int32) (x1 : Int32) (g_slots : Nat → Int64) : Option ((Int32 × (Nat → Int64)) ⊕ (Int32 × (Nat → Int64) × Int64 × (Nat → Int64) × Int32)) := br ((4 : Int32) ≤ x1) (bd (fX1_clear g_history_size) (fun u2 => bd (fX7_slotsInUse g_slots) (fun u3 => some (Sum.inr ((u3, g_slots, g_script_numbers, g_script_sets, u2)))))) (bd (fX3_told x1 g_script_sets) (fun u4 => gd (¬ x1 < 0 ∧ x1.toNatClampNeg < 4) (lt_ (vp_updL g_slots x1.toNatClampNeg u4) (fun y6 => lt_ (x1 + (1 : Int32)) (fun y7 => some (Sum.inl ((y7, y6))))))))
noncomputable def sX7_lay_17 (g_script_length : Int32) (g_script_numbers : Int64) (g_script_letters : Nat → Int32) (g_script_sets : Nat → Int64) (g_history_size : Int32) : (Int32 × (Nat → Int64)) → Option ((Int32 × (Nat → Int64)) ⊕ (Int32 × (Nat → Int64) × Int64 × (Nat → Int64) × Int32)) := fun q => bX7_lay_17 g_script_length g_script_numbers g_script_letters g_script_sets g_history_size q.1 q.2
noncomputable def fX7_lay (g_slots : Nat → Int64) (g_script_length : Int32) (g_script_numbers : Int64) (g_script_letters : Nat → Int32) (g_script_sets : Nat → Int64) (g_history_size : Int32) : Option (Int32 × (Nat → Int64) × Int64 × (Nat → Int64) × Int32) := bd (fX3_read g_script_length g_script_numbers g_script_letters g_script_sets) (fun u8 => br (u8.1 = (-4 : Int32)) (run (sX7_lay_17 g_script_length u8.2.1 g_script_letters u8.2.2 g_history_size) (((0 : Int32), g_slots))) (some (((-2 : Int32), g_slots, u8.2.1, u8.2.2, g_history_size))))
set_option maxHeartbeats 4000000 in
set_option maxRecDepth 100000 in
theorem cX7_lay_ct (l : Launch) (D : va_G) (cI cL cC cZ : ClassId) (a_this a_slots a_script a_history a_sums a_addend a_grids a_pairings a_swellings a_smallestSets a_script_letters a_script_sets a_history_changed a_history_before : Nat) (g_slots : Nat → Int64) (g_script_length : Int32) (g_script_numbers : Int64) (g_script_letters : Nat → Int32) (g_script_sets : Nat → Int64) (g_history_size : Int32) (r0 : Int32) (v_slots : Nat → Int64) (v_script_numbers : Int64) (v_script_sets : Nat → Int64) (v_history_size : Int32) (hf : fX7_lay g_slots g_script_length g_script_numbers g_script_letters g_script_sets g_history_size = some ((r0, v_slots, v_script_numbers, v_script_sets, v_history_size))) : CtI l yX7_lay wsX7_lay rmX7_lay D (tyz cI cL cC cZ) [.ref a_this] [(a_this, .inr (7, [.ref a_slots, .ref a_script, .ref a_history, .ref a_sums, .ref a_addend, .ref a_grids, .ref a_pairings, .ref a_swellings, .ref a_smallestSets])), (a_slots, .inl (cL, 4, .inr (.inl g_slots))), (a_script, .inr (3, [.ref a_script_letters, .ref a_script_sets, .int g_script_length, .long g_script_numbers])), (a_script_letters, .inl (cC, 200, .inl g_script_letters)), (a_script_sets, .inl (cL, 4, .inr (.inl g_script_sets))), (a_history, .inr (1, [.ref a_history_changed, .ref a_history_before, .int g_history_size]))] [(a_this, .inr (7, [.ref a_slots, .ref a_script, .ref a_history, .ref a_sums, .ref a_addend, .ref a_grids, .ref a_pairings, .ref a_swellings, .ref a_smallestSets])), (a_slots, .inl (cL, 4, .inr (.inl v_slots))), (a_script, .inr (3, [.ref a_script_letters, .ref a_script_sets, .int g_script_length, .long v_script_numbers])), (a_script_letters, .inl (cC, 200, .inl g_script_letters)), (a_script_sets, .inl (cL, 4, .inr (.inl v_script_sets))), (a_history, .inr (1, [.ref a_history_changed, .ref a_history_before, .int v_history_size]))] r0 := by
  refine CtI.make (cc := cX7_lay) (maxL := 2) (ty := .int) (by decide) rfl (Nat.le_of_ble_eq_true rfl) ?_
  intro p e s m below meth c A ls C0 hN hA hP hD hl
  obtain ⟨hx, hb, hr, hml, hown, hts, hlk⟩ := id C0
  have hown : s.vm.findClass RX7 = some m.cls := hown
  have hS : va_S A s.heap s.heap [] := va_S.rf
  have hP : va_P D vwCl [(a_this, .inr (7, [.ref a_slots, .ref a_script, .ref a_history, .ref a_sums, .ref a_addend, .ref a_grids, .ref a_pairings, .ref a_swellings, .ref a_smallestSets])), (a_slots, .inl (cL, 4, .inr (.inl g_slots))), (a_script, .inr (3, [.ref a_script_letters, .ref a_script_sets, .int g_script_length, .long g_script_numbers])), (a_script_letters, .inl (cC, 200, .inl g_script_letters)), (a_script_sets, .inl (cL, 4, .inr (.inl g_script_sets))), (a_history, .inr (1, [.ref a_history_changed, .ref a_history_before, .int g_history_size]))] s.heap := hP
  have hD : va_D A [(a_this, .inr (7, [.ref a_slots, .ref a_script, .ref a_history, .ref a_sums, .ref a_addend, .ref a_grids, .ref a_pairings, .ref a_swellings, .ref a_smallestSets])), (a_slots, .inl (cL, 4, .inr (.inl g_slots))), (a_script, .inr (3, [.ref a_script_letters, .ref a_script_sets, .int g_script_length, .long g_script_numbers])), (a_script_letters, .inl (cC, 200, .inl g_script_letters)), (a_script_sets, .inl (cL, 4, .inr (.inl g_script_sets))), (a_history, .inr (1, [.ref a_history_changed, .ref a_history_before, .int g_history_size]))] := hD
  have hl : lv_has ls 2 [(0, .ref a_this)] := hl
  have z1 : ∀ w ∈ u_ws RX7 TX7 9, w ∈ wsX7_lay := by decide +kernel
  have z2 := hts (.fieldLink RX7 23 "LittleSums" "history" "LLittleSums$History;") (by decide +kernel)
  have z3 := cwV (R := rmX7_lay) (rm := rmX1_clear) (mc := 0) (ms := 0) 0 hts gX7_lay_X1_clear rfl rfl rfl (by decide +kernel) ⟨Nat.le_of_ble_eq_true rfl, Nat.le_of_ble_eq_true rfl⟩
  have z4 := cwV (R := rmX7_lay) (rm := rmX7_slotsInUse) (mc := 0) (ms := 0) 0 hts gX7_lay_X7_slotsInUse rfl rfl rfl (by decide +kernel) ⟨Nat.le_of_ble_eq_true rfl, Nat.le_of_ble_eq_true rfl⟩
  have z5 := hts (.fieldLink RX7 9 "LittleSums" "slots" "[J") (by decide +kernel)
  have z6 := hts (.fieldLink RX7 16 "LittleSums" "script" "LLittleSums$Script;") (by decide +kernel)
  have z7 := cwV (R := rmX7_lay) (rm := rmX3_told) (mc := 0) (ms := 0) 1 hts gX7_lay_X3_told rfl rfl rfl (by decide +kernel) ⟨Nat.le_of_ble_eq_true rfl, Nat.le_of_ble_eq_true rfl⟩
  have z8 := cwV (R := rmX7_lay) (rm := rmX3_read) (mc := 0) (ms := 0) 0 hts gX7_lay_X3_read rfl rfl rfl (by decide +kernel) ⟨Nat.le_of_ble_eq_true rfl, Nat.le_of_ble_eq_true rfl⟩
  have w17 : ∀ (g_script_length : Int32) (g_script_numbers : Int64) (g_script_letters : Nat → Int32) (g_script_sets : Nat → Int64) (g_history_size : Int32) (x1 : Int32) (g_slots : Nat → Int64) (t : Int32 × (Nat → Int64) × Int64 × (Nat → Int64) × Int32) (H : Heap) (locs : List Loc) (ls : Array Slot), run (sX7_lay_17 g_script_length g_script_numbers g_script_letters g_script_sets g_history_size) ((x1, g_slots)) = some t → (fun z => z = (r0, v_slots, v_script_numbers, v_script_sets, v_history_size)) t → va_P D vwCl [(a_this, .inr (7, [.ref a_slots, .ref a_script, .ref a_history, .ref a_sums, .ref a_addend, .ref a_grids, .ref a_pairings, .ref a_swellings, .ref a_smallestSets])), (a_slots, .inl (cL, 4, .inr (.inl g_slots))), (a_script, .inr (3, [.ref a_script_letters, .ref a_script_sets, .int g_script_length, .long g_script_numbers])), (a_script_letters, .inl (cC, 200, .inl g_script_letters)), (a_script_sets, .inl (cL, 4, .inr (.inl g_script_sets))), (a_history, .inr (1, [.ref a_history_changed, .ref a_history_before, .int g_history_size]))] H → va_D A [(a_this, .inr (7, [.ref a_slots, .ref a_script, .ref a_history, .ref a_sums, .ref a_addend, .ref a_grids, .ref a_pairings, .ref a_swellings, .ref a_smallestSets])), (a_slots, .inl (cL, 4, .inr (.inl g_slots))), (a_script, .inr (3, [.ref a_script_letters, .ref a_script_sets, .int g_script_length, .long g_script_numbers])), (a_script_letters, .inl (cC, 200, .inl g_script_letters)), (a_script_sets, .inl (cL, 4, .inr (.inl g_script_sets))), (a_history, .inr (1, [.ref a_history_changed, .ref a_history_before, .int g_history_size]))] → va_S A s.heap H locs → lv_has ls 2 [(0, .ref a_this), (1, .int x1)] → W p l e rmX7_lay s m ([.ref a_this] : List Value).toArray below meth c H locs 0 0 (MQ below (cQi D r0 A [(a_this, .inr (7, [.ref a_slots, .ref a_script, .ref a_history, .ref a_sums, .ref a_addend, .ref a_grids, .ref a_pairings, .ref a_swellings, .ref a_smallestSets])), (a_slots, .inl (cL, 4, .inr (.inl v_slots))), (a_script, .inr (3, [.ref a_script_letters, .ref a_script_sets, .int g_script_length, .long v_script_numbers])), (a_script_letters, .inl (cC, 200, .inl g_script_letters)), (a_script_sets, .inl (cL, 4, .inr (.inl v_script_sets))), (a_history, .inr (1, [.ref a_history_changed, .ref a_history_before, .int v_history_size]))]) ([.ref a_this] : List Value).toArray s 0 0 A) (F0 m 17 ls []) := by
    intro g_script_length g_script_numbers g_script_letters g_script_sets g_history_size
    obtain ⟨F17, eF17⟩ : ∃ F : (Int32 × (Nat → Int64)) → Prop, F = fun q => ∀ (H : Heap) (locs : List Loc) (ls : Array Slot), va_P D vwCl [(a_this, .inr (7, [.ref a_slots, .ref a_script, .ref a_history, .ref a_sums, .ref a_addend, .ref a_grids, .ref a_pairings, .ref a_swellings, .ref a_smallestSets])), (a_slots, .inl (cL, 4, .inr (.inl q.2))), (a_script, .inr (3, [.ref a_script_letters, .ref a_script_sets, .int g_script_length, .long g_script_numbers])), (a_script_letters, .inl (cC, 200, .inl g_script_letters)), (a_script_sets, .inl (cL, 4, .inr (.inl g_script_sets))), (a_history, .inr (1, [.ref a_history_changed, .ref a_history_before, .int g_history_size]))] H → va_D A [(a_this, .inr (7, [.ref a_slots, .ref a_script, .ref a_history, .ref a_sums, .ref a_addend, .ref a_grids, .ref a_pairings, .ref a_swellings, .ref a_smallestSets])), (a_slots, .inl (cL, 4, .inr (.inl q.2))), (a_script, .inr (3, [.ref a_script_letters, .ref a_script_sets, .int g_script_length, .long g_script_numbers])), (a_script_letters, .inl (cC, 200, .inl g_script_letters)), (a_script_sets, .inl (cL, 4, .inr (.inl g_script_sets))), (a_history, .inr (1, [.ref a_history_changed, .ref a_history_before, .int g_history_size]))] → va_S A s.heap H locs → lv_has ls 2 [(0, .ref a_this), (1, .int q.1)] → W p l e rmX7_lay s m ([.ref a_this] : List Value).toArray below meth c H locs 0 0 (MQ below (cQi D r0 A [(a_this, .inr (7, [.ref a_slots, .ref a_script, .ref a_history, .ref a_sums, .ref a_addend, .ref a_grids, .ref a_pairings, .ref a_swellings, .ref a_smallestSets])), (a_slots, .inl (cL, 4, .inr (.inl v_slots))), (a_script, .inr (3, [.ref a_script_letters, .ref a_script_sets, .int g_script_length, .long v_script_numbers])), (a_script_letters, .inl (cC, 200, .inl g_script_letters)), (a_script_sets, .inl (cL, 4, .inr (.inl v_script_sets))), (a_history, .inr (1, [.ref a_history_changed, .ref a_history_before, .int v_history_size]))]) ([.ref a_this] : List Value).toArray s 0 0 A) (F0 m 17 ls []) := ⟨_, rfl⟩
    have key : ∀ (q : Int32 × (Nat → Int64)) (t : Int32 × (Nat → Int64) × Int64 × (Nat → Int64) × Int32), run (sX7_lay_17 g_script_length g_script_numbers g_script_letters g_script_sets g_history_size) q = some t → (fun z => z = (r0, v_slots, v_script_numbers, v_script_sets, v_history_size)) t → F17 q := by
      refine loop_rule (sX7_lay_17 g_script_length g_script_numbers g_script_letters g_script_sets g_history_size) F17 (fun z => z = (r0, v_slots, v_script_numbers, v_script_sets, v_history_size)) ?_
      intro q t hf hF
      have hF : (Sum.elim F17 (fun z => z = (r0, v_slots, v_script_numbers, v_script_sets, v_history_size))) t := hF
      rw [eF17]
      obtain ⟨x1, g_slots⟩ := q
      intro H locs ls hP hD hS hl
      have hP : va_P D vwCl [(a_this, .inr (7, [.ref a_slots, .ref a_script, .ref a_history, .ref a_sums, .ref a_addend, .ref a_grids, .ref a_pairings, .ref a_swellings, .ref a_smallestSets])), (a_slots, .inl (cL, 4, .inr (.inl g_slots))), (a_script, .inr (3, [.ref a_script_letters, .ref a_script_sets, .int g_script_length, .long g_script_numbers])), (a_script_letters, .inl (cC, 200, .inl g_script_letters)), (a_script_sets, .inl (cL, 4, .inr (.inl g_script_sets))), (a_history, .inr (1, [.ref a_history_changed, .ref a_history_before, .int g_history_size]))] H := hP
      have hD : va_D A [(a_this, .inr (7, [.ref a_slots, .ref a_script, .ref a_history, .ref a_sums, .ref a_addend, .ref a_grids, .ref a_pairings, .ref a_swellings, .ref a_smallestSets])), (a_slots, .inl (cL, 4, .inr (.inl g_slots))), (a_script, .inr (3, [.ref a_script_letters, .ref a_script_sets, .int g_script_length, .long g_script_numbers])), (a_script_letters, .inl (cC, 200, .inl g_script_letters)), (a_script_sets, .inl (cL, 4, .inr (.inl g_script_sets))), (a_history, .inr (1, [.ref a_history_changed, .ref a_history_before, .int g_history_size]))] := hD
      have hl : lv_has ls 2 [(0, .ref a_this), (1, .int x1)] := hl
      have hf : bX7_lay_17 g_script_length g_script_numbers g_script_letters g_script_sets g_history_size x1 g_slots = some t := hf
      unfold bX7_lay_17 at hf
      refine lv_iload_n hx hb dX7_lay_17 rfl (lv_at hl 1 rfl) ?_
      refine lv_iconst (v := 4) hx hb dX7_lay_18 (by decide) ?_
      refine lv_icmp_ge (tgt := 42) hx hb dX7_lay_19 (by decide) (fun c1 => ?_) (fun c1 => ?_)
      · have hf := br_pos c1 hf
        refine lv_aload_n hx hb dX7_lay_42 rfl (lv_at hl 0 rfl) ?_
        refine va_get (D := D) (ci := 7) (v := .ref a_history) (C := RX7) (T := TX7) (N := 9) hx hb hts z1 hown hN.1 hP 0 rfl rfl 2 (by decide) z2 (fun _ h9 => h9) rfl dX7_lay_43 ?_
        obtain ⟨u2, hu2, hf⟩ := bd_some hf
        refine caVV (rest := []) (As := []) (wr := [(a_this, .inr (7, [.ref a_slots, .ref a_script, .ref a_history, .ref a_sums, .ref a_addend, .ref a_grids, .ref a_pairings, .ref a_swellings, .ref a_smallestSets])), (a_slots, .inl (cL, 4, .inr (.inl g_slots))), (a_script, .inr (3, [.ref a_script_letters, .ref a_script_sets, .int g_script_length, .long g_script_numbers])), (a_script_letters, .inl (cC, 200, .inl g_script_letters)), (a_script_sets, .inl (cL, 4, .inr (.inl g_script_sets)))]) (wo := [(a_this, .inr (7, [.ref a_slots, .ref a_script, .ref a_history, .ref a_sums, .ref a_addend, .ref a_grids, .ref a_pairings, .ref a_swellings, .ref a_smallestSets])), (a_slots, .inl (cL, 4, .inr (.inl g_slots))), (a_script, .inr (3, [.ref a_script_letters, .ref a_script_sets, .int g_script_length, .long g_script_numbers])), (a_script_letters, .inl (cC, 200, .inl g_script_letters)), (a_script_sets, .inl (cL, 4, .inr (.inl g_script_sets))), (a_history, .inr (1, [.ref a_history_changed, .ref a_history_before, .int u2]))]) ⟨hx, hb, hml, hown, hts⟩ hN hP hD hS hA (cX1_clear_ct l D cI cL cC cZ a_history a_history_changed a_history_before g_history_size u2 hu2) z3 5 1 rfl rfl [5] [0, 1, 2, 3, 4] [0, 1, 2, 3, 4, 5] rfl (by decide) rfl (by decide) (by decide) rfl (by decide) rfl hl.1 rfl (Nat.le_of_ble_eq_true rfl) dX7_lay_46 ⟨Nat.zero_le _, Nat.zero_le _⟩ (fun H locs hP hD hS => ?_)
        refine lv_aload_n hx hb dX7_lay_49 rfl (lv_at hl 0 rfl) ?_
        obtain ⟨u3, hu3, hf⟩ := bd_some hf
        refine caVI (rest := []) (As := []) (wr := [(a_script, .inr (3, [.ref a_script_letters, .ref a_script_sets, .int g_script_length, .long g_script_numbers])), (a_script_letters, .inl (cC, 200, .inl g_script_letters)), (a_script_sets, .inl (cL, 4, .inr (.inl g_script_sets))), (a_history, .inr (1, [.ref a_history_changed, .ref a_history_before, .int u2]))]) (wo := [(a_this, .inr (7, [.ref a_slots, .ref a_script, .ref a_history, .ref a_sums, .ref a_addend, .ref a_grids, .ref a_pairings, .ref a_swellings, .ref a_smallestSets])), (a_slots, .inl (cL, 4, .inr (.inl g_slots))), (a_script, .inr (3, [.ref a_script_letters, .ref a_script_sets, .int g_script_length, .long g_script_numbers])), (a_script_letters, .inl (cC, 200, .inl g_script_letters)), (a_script_sets, .inl (cL, 4, .inr (.inl g_script_sets))), (a_history, .inr (1, [.ref a_history_changed, .ref a_history_before, .int u2]))]) ⟨hx, hb, hml, hown, hts⟩ hN hP hD hS hA (cX7_slotsInUse_ct l D cI cL cC cZ a_this a_slots a_script a_history a_sums a_addend a_grids a_pairings a_swellings a_smallestSets g_slots u3 hu3) z4 0 7 rfl rfl [0, 1] [2, 3, 4, 5] [4, 5, 0, 1, 2, 3] rfl (by decide) rfl (by decide) (by decide) rfl (by decide) rfl hl.1 rfl (Nat.le_of_ble_eq_true rfl) dX7_lay_50 ⟨Nat.zero_le _, Nat.zero_le _⟩ (fun H locs hP hD hS => ?_)
        cases hf
        have hE : (u3, g_slots, g_script_numbers, g_script_sets, u2) = (r0, v_slots, v_script_numbers, v_script_sets, v_history_size) := hF
        simp only [Prod.mk.injEq] at hE
        obtain ⟨rfl, rfl, rfl, rfl, rfl⟩ := hE
        exact rtI hx hb hr hlk hP hD hS dX7_lay_53
      · have hf := br_neg c1 hf
        refine lv_aload_n hx hb dX7_lay_22 rfl (lv_at hl 0 rfl) ?_
        refine va_get (D := D) (ci := 7) (v := .ref a_slots) (C := RX7) (T := TX7) (N := 9) hx hb hts z1 hown hN.1 hP 0 rfl rfl 0 (by decide) z5 (fun _ h9 => h9) rfl dX7_lay_23 ?_
        refine lv_iload_n hx hb dX7_lay_26 rfl (lv_at hl 1 rfl) ?_
        refine lv_aload_n hx hb dX7_lay_27 rfl (lv_at hl 0 rfl) ?_
        refine va_get (D := D) (ci := 7) (v := .ref a_script) (C := RX7) (T := TX7) (N := 9) hx hb hts z1 hown hN.1 hP 0 rfl rfl 1 (by decide) z6 (fun _ h9 => h9) rfl dX7_lay_28 ?_
        refine lv_iload_n hx hb dX7_lay_31 rfl (lv_at hl 1 rfl) ?_
        obtain ⟨u4, hu4, hf⟩ := bd_some hf
        refine caVL (rest := [.int x1, .ref a_slots]) (As := [.int x1]) (wr := [(a_this, .inr (7, [.ref a_slots, .ref a_script, .ref a_history, .ref a_sums, .ref a_addend, .ref a_grids, .ref a_pairings, .ref a_swellings, .ref a_smallestSets])), (a_slots, .inl (cL, 4, .inr (.inl g_slots))), (a_script_letters, .inl (cC, 200, .inl g_script_letters)), (a_history, .inr (1, [.ref a_history_changed, .ref a_history_before, .int g_history_size]))]) (wo := [(a_this, .inr (7, [.ref a_slots, .ref a_script, .ref a_history, .ref a_sums, .ref a_addend, .ref a_grids, .ref a_pairings, .ref a_swellings, .ref a_smallestSets])), (a_slots, .inl (cL, 4, .inr (.inl g_slots))), (a_script, .inr (3, [.ref a_script_letters, .ref a_script_sets, .int g_script_length, .long g_script_numbers])), (a_script_letters, .inl (cC, 200, .inl g_script_letters)), (a_script_sets, .inl (cL, 4, .inr (.inl g_script_sets))), (a_history, .inr (1, [.ref a_history_changed, .ref a_history_before, .int g_history_size]))]) ⟨hx, hb, hml, hown, hts⟩ hN hP hD hS hA (cX3_told_ct l D cI cL cC cZ a_script a_script_letters a_script_sets g_script_length g_script_numbers g_script_sets x1 u4 hu4) z7 2 3 rfl rfl [2, 4] [0, 1, 3, 5] [0, 1, 4, 2, 5, 3] rfl (by decide) rfl (by decide) (by decide) rfl (by decide) rfl hl.1 rfl (Nat.le_of_ble_eq_true rfl) dX7_lay_32 ⟨Nat.zero_le _, Nat.zero_le _⟩ (fun H locs hP hD hS => ?_)
        obtain ⟨c5, hf⟩ := gd_some hf
        refine va_last hx hb hN.1 hP hD hS 1 1 rfl rfl (ix_in c5) dX7_lay_35 (fun H locs hP hD hS => ?_)
        obtain ⟨y6, ey6⟩ : ∃ z, z = vp_updL g_slots x1.toNatClampNeg u4 := ⟨_, rfl⟩
        have hf := lt_some hf y6 ey6
        have hP : va_P D vwCl [(a_this, .inr (7, [.ref a_slots, .ref a_script, .ref a_history, .ref a_sums, .ref a_addend, .ref a_grids, .ref a_pairings, .ref a_swellings, .ref a_smallestSets])), (a_slots, .inl (cL, 4, .inr (.inl y6))), (a_script, .inr (3, [.ref a_script_letters, .ref a_script_sets, .int g_script_length, .long g_script_numbers])), (a_script_letters, .inl (cC, 200, .inl g_script_letters)), (a_script_sets, .inl (cL, 4, .inr (.inl g_script_sets))), (a_history, .inr (1, [.ref a_history_changed, .ref a_history_before, .int g_history_size]))] H := by rw [ey6]; exact hP
        have hD : va_D A [(a_this, .inr (7, [.ref a_slots, .ref a_script, .ref a_history, .ref a_sums, .ref a_addend, .ref a_grids, .ref a_pairings, .ref a_swellings, .ref a_smallestSets])), (a_slots, .inl (cL, 4, .inr (.inl y6))), (a_script, .inr (3, [.ref a_script_letters, .ref a_script_sets, .int g_script_length, .long g_script_numbers])), (a_script_letters, .inl (cC, 200, .inl g_script_letters)), (a_script_sets, .inl (cL, 4, .inr (.inl g_script_sets))), (a_history, .inr (1, [.ref a_history_changed, .ref a_history_before, .int g_history_size]))] := by rw [ey6]; exact hD
        obtain ⟨y7, ey7⟩ : ∃ z : Int32, z = x1 + (1 : Int32) := ⟨_, rfl⟩
        have hf := lt_some hf y7 ey7
        refine lv_iinc (v := y7) (lv' := [(1, .int y7), (0, .ref a_this)]) hx hb dX7_lay_36 hl (k := 1) rfl (by rw [ey7]; rfl) (by decide) rfl (fun ls hl => ?_)
        refine lv_goto (tgt := 17) hx hb dX7_lay_39 (by decide) ?_
        cases hf
        exact ((congrFun eF17 _).mp hF) H locs ls hP hD hS (lv_sub hl [1, 0] rfl)
    intro x1 g_slots t H locs ls hf hF hP hD hS hl
    exact ((congrFun eF17 _).mp (key ((x1, g_slots)) t hf hF)) H locs ls hP hD hS hl
  unfold fX7_lay at hf
  obtain ⟨H, eH⟩ : ∃ z, z = s.heap := ⟨_, rfl⟩
  obtain ⟨locs, eL⟩ : ∃ z : List Loc, z = [] := ⟨_, rfl⟩
  have hP : va_P D vwCl [(a_this, .inr (7, [.ref a_slots, .ref a_script, .ref a_history, .ref a_sums, .ref a_addend, .ref a_grids, .ref a_pairings, .ref a_swellings, .ref a_smallestSets])), (a_slots, .inl (cL, 4, .inr (.inl g_slots))), (a_script, .inr (3, [.ref a_script_letters, .ref a_script_sets, .int g_script_length, .long g_script_numbers])), (a_script_letters, .inl (cC, 200, .inl g_script_letters)), (a_script_sets, .inl (cL, 4, .inr (.inl g_script_sets))), (a_history, .inr (1, [.ref a_history_changed, .ref a_history_before, .int g_history_size]))] H := by rw [eH]; exact hP
  have hS : va_S A s.heap H locs := by rw [eH, eL]; exact hS
  suffices hG : W p l e rmX7_lay s m ([.ref a_this] : List Value).toArray below meth c H locs 0 0 (MQ below (cQi D r0 A [(a_this, .inr (7, [.ref a_slots, .ref a_script, .ref a_history, .ref a_sums, .ref a_addend, .ref a_grids, .ref a_pairings, .ref a_swellings, .ref a_smallestSets])), (a_slots, .inl (cL, 4, .inr (.inl v_slots))), (a_script, .inr (3, [.ref a_script_letters, .ref a_script_sets, .int g_script_length, .long v_script_numbers])), (a_script_letters, .inl (cC, 200, .inl g_script_letters)), (a_script_sets, .inl (cL, 4, .inr (.inl v_script_sets))), (a_history, .inr (1, [.ref a_history_changed, .ref a_history_before, .int v_history_size]))]) ([.ref a_this] : List Value).toArray s 0 0 A) (F0 m 0 ls []) by rw [eH, eL] at hG; exact hG
  refine lv_aload_n hx hb dX7_lay_0 rfl (lv_at hl 0 rfl) ?_
  refine va_get (D := D) (ci := 7) (v := .ref a_script) (C := RX7) (T := TX7) (N := 9) hx hb hts z1 hown hN.1 hP 0 rfl rfl 1 (by decide) z6 (fun _ h9 => h9) rfl dX7_lay_1 ?_
  obtain ⟨u8, hu8, hf⟩ := bd_some hf
  refine caVI (rest := []) (As := []) (wr := [(a_this, .inr (7, [.ref a_slots, .ref a_script, .ref a_history, .ref a_sums, .ref a_addend, .ref a_grids, .ref a_pairings, .ref a_swellings, .ref a_smallestSets])), (a_slots, .inl (cL, 4, .inr (.inl g_slots))), (a_history, .inr (1, [.ref a_history_changed, .ref a_history_before, .int g_history_size]))]) (wo := [(a_this, .inr (7, [.ref a_slots, .ref a_script, .ref a_history, .ref a_sums, .ref a_addend, .ref a_grids, .ref a_pairings, .ref a_swellings, .ref a_smallestSets])), (a_slots, .inl (cL, 4, .inr (.inl g_slots))), (a_script, .inr (3, [.ref a_script_letters, .ref a_script_sets, .int g_script_length, .long u8.2.1])), (a_script_letters, .inl (cC, 200, .inl g_script_letters)), (a_script_sets, .inl (cL, 4, .inr (.inl u8.2.2))), (a_history, .inr (1, [.ref a_history_changed, .ref a_history_before, .int g_history_size]))]) ⟨hx, hb, hml, hown, hts⟩ hN hP hD hS hA (cX3_read_ct l D cI cL cC cZ a_script a_script_letters a_script_sets g_script_length g_script_numbers g_script_letters g_script_sets u8.1 u8.2.1 u8.2.2 hu8) z8 2 3 rfl rfl [2, 3, 4] [0, 1, 5] [0, 1, 3, 4, 5, 2] rfl (by decide) rfl (by decide) (by decide) rfl (by decide) rfl hl.1 rfl (Nat.le_of_ble_eq_true rfl) dX7_lay_4 ⟨Nat.zero_le _, Nat.zero_le _⟩ (fun H locs hP hD hS => ?_)
  refine lv_bipush (v := -4) hx hb dX7_lay_7 (by decide) ?_
  refine lv_icmp_eq (tgt := 15) hx hb dX7_lay_9 (by decide) (fun c9 => ?_) (fun c9 => ?_)
  · have hf := br_pos c9 hf
    refine lv_iconst (v := 0) hx hb dX7_lay_15 (by decide) ?_
    refine lv_istore_n (lv' := [(1, .int (0 : Int32)), (0, .ref a_this)]) hx hb dX7_lay_16 rfl hl (by decide) rfl (fun ls hl => ?_)
    exact w17 g_script_length u8.2.1 g_script_letters u8.2.2 g_history_size (0 : Int32) g_slots (r0, v_slots, v_script_numbers, v_script_sets, v_history_size) H locs ls hf rfl hP hD hS (lv_sub hl [1, 0] rfl)
  · have hf := br_neg c9 hf
    refine lv_bipush (v := -2) hx hb dX7_lay_12 (by decide) ?_
    have hE : ((-2 : Int32), g_slots, u8.2.1, u8.2.2, g_history_size) = (r0, v_slots, v_script_numbers, v_script_sets, v_history_size) := Option.some.inj hf
    simp only [Prod.mk.injEq] at hE
    obtain ⟨rfl, rfl, rfl, rfl, rfl⟩ := hE
    exact rtI hx hb hr hlk hP hD hS dX7_lay_14
abbrev rmX7_change : Room := { frames := 2, cells := 0, slots := 0, locals := 87 }
noncomputable def fX7_change (q1 : Int32) (q2 : Int64) (g_slots : Nat → Int64) (g_history_size : Int32) (g_history_changed : Nat → Int32) (g_history_before : Nat → Int64) : Option (Int32 × (Nat → Int64) × Int32 × (Nat → Int32) × (Nat → Int64)) := gd (¬ q1 < 0 ∧ q1.toNatClampNeg < 4) (bd (fX1_keep q1 (g_slots q1.toNatClampNeg) g_history_size g_history_changed g_history_before) (fun u2 => gd (¬ q1 < 0 ∧ q1.toNatClampNeg < 4) (lt_ (vp_updL g_slots q1.toNatClampNeg q2) (fun y4 => bd (fJ13_bitCount_95d88 q2) (fun u5 => some ((u5, y4, u2.1, u2.2.1, u2.2.2)))))))
set_option maxHeartbeats 4000000 in
set_option maxRecDepth 100000 in
theorem cX7_change_ct (l : Launch) (D : va_G) (cI cL cC cZ : ClassId) (a_this a_slots a_script a_history a_sums a_addend a_grids a_pairings a_swellings a_smallestSets a_history_changed a_history_before : Nat) (g_slots : Nat → Int64) (g_history_size : Int32) (g_history_changed : Nat → Int32) (g_history_before : Nat → Int64) (q1 : Int32) (q2 : Int64) (r0 : Int32) (v_slots : Nat → Int64) (v_history_size : Int32) (v_history_changed : Nat → Int32) (v_history_before : Nat → Int64) (hf : fX7_change q1 q2 g_slots g_history_size g_history_changed g_history_before = some ((r0, v_slots, v_history_size, v_history_changed, v_history_before))) : CtI l yX7_change wsX7_change rmX7_change D (tyz cI cL cC cZ) [.ref a_this, .int q1, .long q2] [(a_this, .inr (7, [.ref a_slots, .ref a_script, .ref a_history, .ref a_sums, .ref a_addend, .ref a_grids, .ref a_pairings, .ref a_swellings, .ref a_smallestSets])), (a_slots, .inl (cL, 4, .inr (.inl g_slots))), (a_history, .inr (1, [.ref a_history_changed, .ref a_history_before, .int g_history_size])), (a_history_changed, .inl (cI, 6, .inl g_history_changed)), (a_history_before, .inl (cL, 6, .inr (.inl g_history_before)))] [(a_this, .inr (7, [.ref a_slots, .ref a_script, .ref a_history, .ref a_sums, .ref a_addend, .ref a_grids, .ref a_pairings, .ref a_swellings, .ref a_smallestSets])), (a_slots, .inl (cL, 4, .inr (.inl v_slots))), (a_history, .inr (1, [.ref a_history_changed, .ref a_history_before, .int v_history_size])), (a_history_changed, .inl (cI, 6, .inl v_history_changed)), (a_history_before, .inl (cL, 6, .inr (.inl v_history_before)))] r0 := by
  refine CtI.make (cc := cX7_change) (maxL := 4) (ty := .int) (by decide) rfl (Nat.le_of_ble_eq_true rfl) ?_
  intro p e s m below meth c A ls C0 hN hA hP hD hl
  obtain ⟨hx, hb, hr, hml, hown, hts, hlk⟩ := id C0
  have hown : s.vm.findClass RX7 = some m.cls := hown
  have hS : va_S A s.heap s.heap [] := va_S.rf
  have hP : va_P D vwCl [(a_this, .inr (7, [.ref a_slots, .ref a_script, .ref a_history, .ref a_sums, .ref a_addend, .ref a_grids, .ref a_pairings, .ref a_swellings, .ref a_smallestSets])), (a_slots, .inl (cL, 4, .inr (.inl g_slots))), (a_history, .inr (1, [.ref a_history_changed, .ref a_history_before, .int g_history_size])), (a_history_changed, .inl (cI, 6, .inl g_history_changed)), (a_history_before, .inl (cL, 6, .inr (.inl g_history_before)))] s.heap := hP
  have hD : va_D A [(a_this, .inr (7, [.ref a_slots, .ref a_script, .ref a_history, .ref a_sums, .ref a_addend, .ref a_grids, .ref a_pairings, .ref a_swellings, .ref a_smallestSets])), (a_slots, .inl (cL, 4, .inr (.inl g_slots))), (a_history, .inr (1, [.ref a_history_changed, .ref a_history_before, .int g_history_size])), (a_history_changed, .inl (cI, 6, .inl g_history_changed)), (a_history_before, .inl (cL, 6, .inr (.inl g_history_before)))] := hD
  have hl : lv_has ls 4 [(0, .ref a_this), (1, .int q1), (2, .long q2)] := hl
  have z1 : ∀ w ∈ u_ws RX7 TX7 9, w ∈ wsX7_change := by decide +kernel
  have z2 := hts (.fieldLink RX7 23 "LittleSums" "history" "LLittleSums$History;") (by decide +kernel)
  have z3 := hts (.fieldLink RX7 9 "LittleSums" "slots" "[J") (by decide +kernel)
  have z4 := cwV (R := rmX7_change) (rm := rmX1_keep) (mc := 0) (ms := 0) 2 hts gX7_change_X1_keep rfl rfl rfl (by decide +kernel) ⟨Nat.le_of_ble_eq_true rfl, Nat.le_of_ble_eq_true rfl⟩
  have z5 := va_cwS (R := rmX7_change) (rm := rmJ13_bitCount_95d88) (mc := 0) (ms := 0) 1 hts gX7_change_J13_bitCount_95d88 rfl rfl rfl (by decide +kernel) ⟨Nat.le_of_ble_eq_true rfl, Nat.le_of_ble_eq_true rfl⟩
  unfold fX7_change at hf
  obtain ⟨H, eH⟩ : ∃ z, z = s.heap := ⟨_, rfl⟩
  obtain ⟨locs, eL⟩ : ∃ z : List Loc, z = [] := ⟨_, rfl⟩
  have hP : va_P D vwCl [(a_this, .inr (7, [.ref a_slots, .ref a_script, .ref a_history, .ref a_sums, .ref a_addend, .ref a_grids, .ref a_pairings, .ref a_swellings, .ref a_smallestSets])), (a_slots, .inl (cL, 4, .inr (.inl g_slots))), (a_history, .inr (1, [.ref a_history_changed, .ref a_history_before, .int g_history_size])), (a_history_changed, .inl (cI, 6, .inl g_history_changed)), (a_history_before, .inl (cL, 6, .inr (.inl g_history_before)))] H := by rw [eH]; exact hP
  have hS : va_S A s.heap H locs := by rw [eH, eL]; exact hS
  suffices hG : W p l e rmX7_change s m ([.ref a_this, .int q1, .long q2] : List Value).toArray below meth c H locs 0 0 (MQ below (cQi D r0 A [(a_this, .inr (7, [.ref a_slots, .ref a_script, .ref a_history, .ref a_sums, .ref a_addend, .ref a_grids, .ref a_pairings, .ref a_swellings, .ref a_smallestSets])), (a_slots, .inl (cL, 4, .inr (.inl v_slots))), (a_history, .inr (1, [.ref a_history_changed, .ref a_history_before, .int v_history_size])), (a_history_changed, .inl (cI, 6, .inl v_history_changed)), (a_history_before, .inl (cL, 6, .inr (.inl v_history_before)))]) ([.ref a_this, .int q1, .long q2] : List Value).toArray s 0 0 A) (F0 m 0 ls []) by rw [eH, eL] at hG; exact hG
  refine lv_aload_n hx hb dX7_change_0 rfl (lv_at hl 0 rfl) ?_
  refine va_get (D := D) (ci := 7) (v := .ref a_history) (C := RX7) (T := TX7) (N := 9) hx hb hts z1 hown hN.1 hP 0 rfl rfl 2 (by decide) z2 (fun _ h9 => h9) rfl dX7_change_1 ?_
  refine lv_iload_n hx hb dX7_change_4 rfl (lv_at hl 1 rfl) ?_
  refine lv_aload_n hx hb dX7_change_5 rfl (lv_at hl 0 rfl) ?_
  refine va_get (D := D) (ci := 7) (v := .ref a_slots) (C := RX7) (T := TX7) (N := 9) hx hb hts z1 hown hN.1 hP 0 rfl rfl 0 (by decide) z3 (fun _ h9 => h9) rfl dX7_change_6 ?_
  refine lv_iload_n hx hb dX7_change_9 rfl (lv_at hl 1 rfl) ?_
  obtain ⟨c1, hf⟩ := gd_some hf
  refine va_lald hx hb hN.1 hP 1 1 rfl rfl (ix_in c1) dX7_change_10 ?_
  obtain ⟨u2, hu2, hf⟩ := bd_some hf
  refine caVV (rest := []) (As := [.int q1, .long (g_slots q1.toNatClampNeg)]) (wr := [(a_this, .inr (7, [.ref a_slots, .ref a_script, .ref a_history, .ref a_sums, .ref a_addend, .ref a_grids, .ref a_pairings, .ref a_swellings, .ref a_smallestSets])), (a_slots, .inl (cL, 4, .inr (.inl g_slots)))]) (wo := [(a_this, .inr (7, [.ref a_slots, .ref a_script, .ref a_history, .ref a_sums, .ref a_addend, .ref a_grids, .ref a_pairings, .ref a_swellings, .ref a_smallestSets])), (a_slots, .inl (cL, 4, .inr (.inl g_slots))), (a_history, .inr (1, [.ref a_history_changed, .ref a_history_before, .int u2.1])), (a_history_changed, .inl (cI, 6, .inl u2.2.1)), (a_history_before, .inl (cL, 6, .inr (.inl u2.2.2)))]) ⟨hx, hb, hml, hown, hts⟩ hN hP hD hS hA (cX1_keep_ct l D cI cL cC cZ a_history a_history_changed a_history_before g_history_size g_history_changed g_history_before q1 (g_slots q1.toNatClampNeg) u2.1 u2.2.1 u2.2.2 hu2) z4 2 1 rfl rfl [2, 3, 4] [0, 1] [0, 1, 2, 3, 4] rfl (by decide) rfl (by decide) (by decide) rfl (by decide) rfl hl.1 rfl (Nat.le_of_ble_eq_true rfl) dX7_change_11 ⟨Nat.zero_le _, Nat.zero_le _⟩ (fun H locs hP hD hS => ?_)
  refine lv_aload_n hx hb dX7_change_14 rfl (lv_at hl 0 rfl) ?_
  refine va_get (D := D) (ci := 7) (v := .ref a_slots) (C := RX7) (T := TX7) (N := 9) hx hb hts z1 hown hN.1 hP 0 rfl rfl 0 (by decide) z3 (fun _ h9 => h9) rfl dX7_change_15 ?_
  refine lv_iload_n hx hb dX7_change_18 rfl (lv_at hl 1 rfl) ?_
  refine lv_lload_n hx hb dX7_change_19 rfl (lv_at hl 2 rfl) ?_
  obtain ⟨c3, hf⟩ := gd_some hf
  refine va_last hx hb hN.1 hP hD hS 1 1 rfl rfl (ix_in c3) dX7_change_20 (fun H locs hP hD hS => ?_)
  obtain ⟨y4, ey4⟩ : ∃ z, z = vp_updL g_slots q1.toNatClampNeg q2 := ⟨_, rfl⟩
  have hf := lt_some hf y4 ey4
  have hP : va_P D vwCl [(a_this, .inr (7, [.ref a_slots, .ref a_script, .ref a_history, .ref a_sums, .ref a_addend, .ref a_grids, .ref a_pairings, .ref a_swellings, .ref a_smallestSets])), (a_slots, .inl (cL, 4, .inr (.inl y4))), (a_history, .inr (1, [.ref a_history_changed, .ref a_history_before, .int u2.1])), (a_history_changed, .inl (cI, 6, .inl u2.2.1)), (a_history_before, .inl (cL, 6, .inr (.inl u2.2.2)))] H := by rw [ey4]; exact hP
  have hD : va_D A [(a_this, .inr (7, [.ref a_slots, .ref a_script, .ref a_history, .ref a_sums, .ref a_addend, .ref a_grids, .ref a_pairings, .ref a_swellings, .ref a_smallestSets])), (a_slots, .inl (cL, 4, .inr (.inl y4))), (a_history, .inr (1, [.ref a_history_changed, .ref a_history_before, .int u2.1])), (a_history_changed, .inl (cI, 6, .inl u2.2.1)), (a_history_before, .inl (cL, 6, .inr (.inl u2.2.2)))] := by rw [ey4]; exact hD
  refine lv_lload_n hx hb dX7_change_21 rfl (lv_at hl 2 rfl) ?_
  obtain ⟨u5, hu5, hf⟩ := bd_some hf
  refine caSI (rest := []) (As := [.long q2]) (wr := [(a_this, .inr (7, [.ref a_slots, .ref a_script, .ref a_history, .ref a_sums, .ref a_addend, .ref a_grids, .ref a_pairings, .ref a_swellings, .ref a_smallestSets])), (a_slots, .inl (cL, 4, .inr (.inl y4))), (a_history, .inr (1, [.ref a_history_changed, .ref a_history_before, .int u2.1])), (a_history_changed, .inl (cI, 6, .inl u2.2.1)), (a_history_before, .inl (cL, 6, .inr (.inl u2.2.2)))]) (wo := [(a_this, .inr (7, [.ref a_slots, .ref a_script, .ref a_history, .ref a_sums, .ref a_addend, .ref a_grids, .ref a_pairings, .ref a_swellings, .ref a_smallestSets])), (a_slots, .inl (cL, 4, .inr (.inl y4))), (a_history, .inr (1, [.ref a_history_changed, .ref a_history_before, .int u2.1])), (a_history_changed, .inl (cI, 6, .inl u2.2.1)), (a_history_before, .inl (cL, 6, .inr (.inl u2.2.2)))]) ⟨hx, hb, hml, hown, hts⟩ hN hP hD hS hA (cJ13_bitCount_95d88_ct l D cI cL cC cZ q2 u5 hu5) z5 [] [0, 1, 2, 3, 4] [0, 1, 2, 3, 4] rfl (by decide) rfl (by decide) (by decide) rfl (by decide) rfl hl.1 rfl (Nat.le_of_ble_eq_true rfl) dX7_change_22 ⟨Nat.zero_le _, Nat.zero_le _⟩ (fun H locs hP hD hS => ?_)
  have hE : (u5, y4, u2.1, u2.2.1, u2.2.2) = (r0, v_slots, v_history_size, v_history_changed, v_history_before) := Option.some.inj hf
  simp only [Prod.mk.injEq] at hE
  obtain ⟨rfl, rfl, rfl, rfl, rfl⟩ := hE
  exact rtI hx hb hr hlk hP hD hS dX7_change_25
abbrev rmX7_put : Room := { frames := 3, cells := 0, slots := 0, locals := 110 }
noncomputable def fX7_put (q1 : Int32) (q2 : Int32) (g_slots : Nat → Int64) (g_history_size : Int32) (g_history_changed : Nat → Int32) (g_history_before : Nat → Int64) : Option (Int32 × (Nat → Int64) × Int32 × (Nat → Int32) × (Nat → Int64)) := bd (fX7_isSlot q1) (fun u1 => br (u1 = 0) (some (((-1 : Int32), g_slots, g_history_size, g_history_changed, g_history_before))) (bd (fX7_isNumber q2) (fun u3 => br (u3 = 0) (some (((-1 : Int32), g_slots, g_history_size, g_history_changed, g_history_before))) (gd (¬ q1 < 0 ∧ q1.toNatClampNeg < 4) (bd (fX7_has (g_slots q1.toNatClampNeg) q2) (fun u6 => br (u6 = 0) (gd (¬ q1 < 0 ∧ q1.toNatClampNeg < 4) (bd (fX7_change q1 ((g_slots q1.toNatClampNeg) ||| ((1 : Int64) <<< (q2.toInt64 &&& 63))) g_slots g_history_size g_history_changed g_history_before) (fun u9 => some ((u9.1, u9.2.1, u9.2.2.1, u9.2.2.2.1, u9.2.2.2.2))))) (some (((-2 : Int32), g_slots, g_history_size, g_history_changed, g_history_before)))))))))
set_option maxHeartbeats 4000000 in
set_option maxRecDepth 100000 in
theorem cX7_put_ct (l : Launch) (D : va_G) (cI cL cC cZ : ClassId) (a_this a_slots a_script a_history a_sums a_addend a_grids a_pairings a_swellings a_smallestSets a_history_changed a_history_before : Nat) (g_slots : Nat → Int64) (g_history_size : Int32) (g_history_changed : Nat → Int32) (g_history_before : Nat → Int64) (q1 : Int32) (q2 : Int32) (r0 : Int32) (v_slots : Nat → Int64) (v_history_size : Int32) (v_history_changed : Nat → Int32) (v_history_before : Nat → Int64) (hf : fX7_put q1 q2 g_slots g_history_size g_history_changed g_history_before = some ((r0, v_slots, v_history_size, v_history_changed, v_history_before))) : CtI l yX7_put wsX7_put rmX7_put D (tyz cI cL cC cZ) [.ref a_this, .int q1, .int q2] [(a_this, .inr (7, [.ref a_slots, .ref a_script, .ref a_history, .ref a_sums, .ref a_addend, .ref a_grids, .ref a_pairings, .ref a_swellings, .ref a_smallestSets])), (a_slots, .inl (cL, 4, .inr (.inl g_slots))), (a_history, .inr (1, [.ref a_history_changed, .ref a_history_before, .int g_history_size])), (a_history_changed, .inl (cI, 6, .inl g_history_changed)), (a_history_before, .inl (cL, 6, .inr (.inl g_history_before)))] [(a_this, .inr (7, [.ref a_slots, .ref a_script, .ref a_history, .ref a_sums, .ref a_addend, .ref a_grids, .ref a_pairings, .ref a_swellings, .ref a_smallestSets])), (a_slots, .inl (cL, 4, .inr (.inl v_slots))), (a_history, .inr (1, [.ref a_history_changed, .ref a_history_before, .int v_history_size])), (a_history_changed, .inl (cI, 6, .inl v_history_changed)), (a_history_before, .inl (cL, 6, .inr (.inl v_history_before)))] r0 := by
  refine CtI.make (cc := cX7_put) (maxL := 3) (ty := .int) (by decide) rfl (Nat.le_of_ble_eq_true rfl) ?_
  intro p e s m below meth c A ls C0 hN hA hP hD hl
  obtain ⟨hx, hb, hr, hml, hown, hts, hlk⟩ := id C0
  have hown : s.vm.findClass RX7 = some m.cls := hown
  have hS : va_S A s.heap s.heap [] := va_S.rf
  have hP : va_P D vwCl [(a_this, .inr (7, [.ref a_slots, .ref a_script, .ref a_history, .ref a_sums, .ref a_addend, .ref a_grids, .ref a_pairings, .ref a_swellings, .ref a_smallestSets])), (a_slots, .inl (cL, 4, .inr (.inl g_slots))), (a_history, .inr (1, [.ref a_history_changed, .ref a_history_before, .int g_history_size])), (a_history_changed, .inl (cI, 6, .inl g_history_changed)), (a_history_before, .inl (cL, 6, .inr (.inl g_history_before)))] s.heap := hP
  have hD : va_D A [(a_this, .inr (7, [.ref a_slots, .ref a_script, .ref a_history, .ref a_sums, .ref a_addend, .ref a_grids, .ref a_pairings, .ref a_swellings, .ref a_smallestSets])), (a_slots, .inl (cL, 4, .inr (.inl g_slots))), (a_history, .inr (1, [.ref a_history_changed, .ref a_history_before, .int g_history_size])), (a_history_changed, .inl (cI, 6, .inl g_history_changed)), (a_history_before, .inl (cL, 6, .inr (.inl g_history_before)))] := hD
  have hl : lv_has ls 3 [(0, .ref a_this), (1, .int q1), (2, .int q2)] := hl
  have z1 := va_cwS (R := rmX7_put) (rm := rmX7_isSlot) (mc := 0) (ms := 0) 1 hts gX7_put_X7_isSlot rfl rfl rfl (by decide +kernel) ⟨Nat.le_of_ble_eq_true rfl, Nat.le_of_ble_eq_true rfl⟩
  have z2 := va_cwS (R := rmX7_put) (rm := rmX7_isNumber) (mc := 0) (ms := 0) 1 hts gX7_put_X7_isNumber rfl rfl rfl (by decide +kernel) ⟨Nat.le_of_ble_eq_true rfl, Nat.le_of_ble_eq_true rfl⟩
  have z3 : ∀ w ∈ u_ws RX7 TX7 9, w ∈ wsX7_put := by decide +kernel
  have z4 := hts (.fieldLink RX7 9 "LittleSums" "slots" "[J") (by decide +kernel)
  have z5 := va_cwS (R := rmX7_put) (rm := rmX7_has) (mc := 0) (ms := 0) 2 hts gX7_put_X7_has rfl rfl rfl (by decide +kernel) ⟨Nat.le_of_ble_eq_true rfl, Nat.le_of_ble_eq_true rfl⟩
  have z6 := cwV (R := rmX7_put) (rm := rmX7_change) (mc := 0) (ms := 0) 2 hts gX7_put_X7_change rfl rfl rfl (by decide +kernel) ⟨Nat.le_of_ble_eq_true rfl, Nat.le_of_ble_eq_true rfl⟩
  unfold fX7_put at hf
  obtain ⟨H, eH⟩ : ∃ z, z = s.heap := ⟨_, rfl⟩
  obtain ⟨locs, eL⟩ : ∃ z : List Loc, z = [] := ⟨_, rfl⟩
  have hP : va_P D vwCl [(a_this, .inr (7, [.ref a_slots, .ref a_script, .ref a_history, .ref a_sums, .ref a_addend, .ref a_grids, .ref a_pairings, .ref a_swellings, .ref a_smallestSets])), (a_slots, .inl (cL, 4, .inr (.inl g_slots))), (a_history, .inr (1, [.ref a_history_changed, .ref a_history_before, .int g_history_size])), (a_history_changed, .inl (cI, 6, .inl g_history_changed)), (a_history_before, .inl (cL, 6, .inr (.inl g_history_before)))] H := by rw [eH]; exact hP
  have hS : va_S A s.heap H locs := by rw [eH, eL]; exact hS
  suffices hG : W p l e rmX7_put s m ([.ref a_this, .int q1, .int q2] : List Value).toArray below meth c H locs 0 0 (MQ below (cQi D r0 A [(a_this, .inr (7, [.ref a_slots, .ref a_script, .ref a_history, .ref a_sums, .ref a_addend, .ref a_grids, .ref a_pairings, .ref a_swellings, .ref a_smallestSets])), (a_slots, .inl (cL, 4, .inr (.inl v_slots))), (a_history, .inr (1, [.ref a_history_changed, .ref a_history_before, .int v_history_size])), (a_history_changed, .inl (cI, 6, .inl v_history_changed)), (a_history_before, .inl (cL, 6, .inr (.inl v_history_before)))]) ([.ref a_this, .int q1, .int q2] : List Value).toArray s 0 0 A) (F0 m 0 ls []) by rw [eH, eL] at hG; exact hG
  refine lv_iload_n hx hb dX7_put_0 rfl (lv_at hl 1 rfl) ?_
  obtain ⟨u1, hu1, hf⟩ := bd_some hf
  refine caSI (rest := []) (As := [.int q1]) (wr := [(a_this, .inr (7, [.ref a_slots, .ref a_script, .ref a_history, .ref a_sums, .ref a_addend, .ref a_grids, .ref a_pairings, .ref a_swellings, .ref a_smallestSets])), (a_slots, .inl (cL, 4, .inr (.inl g_slots))), (a_history, .inr (1, [.ref a_history_changed, .ref a_history_before, .int g_history_size])), (a_history_changed, .inl (cI, 6, .inl g_history_changed)), (a_history_before, .inl (cL, 6, .inr (.inl g_history_before)))]) (wo := [(a_this, .inr (7, [.ref a_slots, .ref a_script, .ref a_history, .ref a_sums, .ref a_addend, .ref a_grids, .ref a_pairings, .ref a_swellings, .ref a_smallestSets])), (a_slots, .inl (cL, 4, .inr (.inl g_slots))), (a_history, .inr (1, [.ref a_history_changed, .ref a_history_before, .int g_history_size])), (a_history_changed, .inl (cI, 6, .inl g_history_changed)), (a_history_before, .inl (cL, 6, .inr (.inl g_history_before)))]) ⟨hx, hb, hml, hown, hts⟩ hN hP hD hS hA (cX7_isSlot_ct l D cI cL cC cZ q1 u1 hu1) z1 [] [0, 1, 2, 3, 4] [0, 1, 2, 3, 4] rfl (by decide) rfl (by decide) (by decide) rfl (by decide) rfl hl.1 rfl (Nat.le_of_ble_eq_true rfl) dX7_put_1 ⟨Nat.zero_le _, Nat.zero_le _⟩ (fun H locs hP hD hS => ?_)
  refine lv_if_eq (tgt := 14) hx hb dX7_put_4 (by decide) (fun c2 => ?_) (fun c2 => ?_)
  · have hf := br_pos c2 hf
    refine lv_iconst (v := -1) hx hb dX7_put_14 (by decide) ?_
    have hE : ((-1 : Int32), g_slots, g_history_size, g_history_changed, g_history_before) = (r0, v_slots, v_history_size, v_history_changed, v_history_before) := Option.some.inj hf
    simp only [Prod.mk.injEq] at hE
    obtain ⟨rfl, rfl, rfl, rfl, rfl⟩ := hE
    exact rtI hx hb hr hlk hP hD hS dX7_put_15
  · have hf := br_neg c2 hf
    refine lv_iload_n hx hb dX7_put_7 rfl (lv_at hl 2 rfl) ?_
    obtain ⟨u3, hu3, hf⟩ := bd_some hf
    refine caSI (rest := []) (As := [.int q2]) (wr := [(a_this, .inr (7, [.ref a_slots, .ref a_script, .ref a_history, .ref a_sums, .ref a_addend, .ref a_grids, .ref a_pairings, .ref a_swellings, .ref a_smallestSets])), (a_slots, .inl (cL, 4, .inr (.inl g_slots))), (a_history, .inr (1, [.ref a_history_changed, .ref a_history_before, .int g_history_size])), (a_history_changed, .inl (cI, 6, .inl g_history_changed)), (a_history_before, .inl (cL, 6, .inr (.inl g_history_before)))]) (wo := [(a_this, .inr (7, [.ref a_slots, .ref a_script, .ref a_history, .ref a_sums, .ref a_addend, .ref a_grids, .ref a_pairings, .ref a_swellings, .ref a_smallestSets])), (a_slots, .inl (cL, 4, .inr (.inl g_slots))), (a_history, .inr (1, [.ref a_history_changed, .ref a_history_before, .int g_history_size])), (a_history_changed, .inl (cI, 6, .inl g_history_changed)), (a_history_before, .inl (cL, 6, .inr (.inl g_history_before)))]) ⟨hx, hb, hml, hown, hts⟩ hN hP hD hS hA (cX7_isNumber_ct l D cI cL cC cZ q2 u3 hu3) z2 [] [0, 1, 2, 3, 4] [0, 1, 2, 3, 4] rfl (by decide) rfl (by decide) (by decide) rfl (by decide) rfl hl.1 rfl (Nat.le_of_ble_eq_true rfl) dX7_put_8 ⟨Nat.zero_le _, Nat.zero_le _⟩ (fun H locs hP hD hS => ?_)
    refine lv_if_ne (tgt := 16) hx hb dX7_put_11 (by decide) (fun c4 => ?_) (fun c4 => ?_)
    · have hf := br_neg c4 hf
      refine lv_aload_n hx hb dX7_put_16 rfl (lv_at hl 0 rfl) ?_
      refine va_get (D := D) (ci := 7) (v := .ref a_slots) (C := RX7) (T := TX7) (N := 9) hx hb hts z3 hown hN.1 hP 0 rfl rfl 0 (by decide) z4 (fun _ h9 => h9) rfl dX7_put_17 ?_
      refine lv_iload_n hx hb dX7_put_20 rfl (lv_at hl 1 rfl) ?_
      obtain ⟨c5, hf⟩ := gd_some hf
      refine va_lald hx hb hN.1 hP 1 1 rfl rfl (ix_in c5) dX7_put_21 ?_
      refine lv_iload_n hx hb dX7_put_22 rfl (lv_at hl 2 rfl) ?_
      obtain ⟨u6, hu6, hf⟩ := bd_some hf
      refine caSI (rest := []) (As := [.long (g_slots q1.toNatClampNeg), .int q2]) (wr := [(a_this, .inr (7, [.ref a_slots, .ref a_script, .ref a_history, .ref a_sums, .ref a_addend, .ref a_grids, .ref a_pairings, .ref a_swellings, .ref a_smallestSets])), (a_slots, .inl (cL, 4, .inr (.inl g_slots))), (a_history, .inr (1, [.ref a_history_changed, .ref a_history_before, .int g_history_size])), (a_history_changed, .inl (cI, 6, .inl g_history_changed)), (a_history_before, .inl (cL, 6, .inr (.inl g_history_before)))]) (wo := [(a_this, .inr (7, [.ref a_slots, .ref a_script, .ref a_history, .ref a_sums, .ref a_addend, .ref a_grids, .ref a_pairings, .ref a_swellings, .ref a_smallestSets])), (a_slots, .inl (cL, 4, .inr (.inl g_slots))), (a_history, .inr (1, [.ref a_history_changed, .ref a_history_before, .int g_history_size])), (a_history_changed, .inl (cI, 6, .inl g_history_changed)), (a_history_before, .inl (cL, 6, .inr (.inl g_history_before)))]) ⟨hx, hb, hml, hown, hts⟩ hN hP hD hS hA (cX7_has_ct l D cI cL cC cZ (g_slots q1.toNatClampNeg) q2 u6 hu6) z5 [] [0, 1, 2, 3, 4] [0, 1, 2, 3, 4] rfl (by decide) rfl (by decide) (by decide) rfl (by decide) rfl hl.1 rfl (Nat.le_of_ble_eq_true rfl) dX7_put_23 ⟨Nat.zero_le _, Nat.zero_le _⟩ (fun H locs hP hD hS => ?_)
      refine lv_if_eq (tgt := 34) hx hb dX7_put_26 (by decide) (fun c7 => ?_) (fun c7 => ?_)
      · have hf := br_pos c7 hf
        refine lv_aload_n hx hb dX7_put_34 rfl (lv_at hl 0 rfl) ?_
        refine lv_iload_n hx hb dX7_put_35 rfl (lv_at hl 1 rfl) ?_
        refine lv_aload_n hx hb dX7_put_36 rfl (lv_at hl 0 rfl) ?_
        refine va_get (D := D) (ci := 7) (v := .ref a_slots) (C := RX7) (T := TX7) (N := 9) hx hb hts z3 hown hN.1 hP 0 rfl rfl 0 (by decide) z4 (fun _ h9 => h9) rfl dX7_put_37 ?_
        refine lv_iload_n hx hb dX7_put_40 rfl (lv_at hl 1 rfl) ?_
        obtain ⟨c8, hf⟩ := gd_some hf
        refine va_lald hx hb hN.1 hP 1 1 rfl rfl (ix_in c8) dX7_put_41 ?_
        refine lv_lconst (v := 1) hx hb dX7_put_42 (by decide) ?_
        refine lv_iload_n hx hb dX7_put_43 rfl (lv_at hl 2 rfl) ?_
        refine lv_lshl hx hb dX7_put_44 rfl ?_
        refine lv_lor hx hb dX7_put_45 ?_
        obtain ⟨u9, hu9, hf⟩ := bd_some hf
        refine caVI (rest := []) (As := [.int q1, .long ((g_slots q1.toNatClampNeg) ||| ((1 : Int64) <<< (q2.toInt64 &&& 63)))]) (wr := []) (wo := [(a_this, .inr (7, [.ref a_slots, .ref a_script, .ref a_history, .ref a_sums, .ref a_addend, .ref a_grids, .ref a_pairings, .ref a_swellings, .ref a_smallestSets])), (a_slots, .inl (cL, 4, .inr (.inl u9.2.1))), (a_history, .inr (1, [.ref a_history_changed, .ref a_history_before, .int u9.2.2.1])), (a_history_changed, .inl (cI, 6, .inl u9.2.2.2.1)), (a_history_before, .inl (cL, 6, .inr (.inl u9.2.2.2.2)))]) ⟨hx, hb, hml, hown, hts⟩ hN hP hD hS hA (cX7_change_ct l D cI cL cC cZ a_this a_slots a_script a_history a_sums a_addend a_grids a_pairings a_swellings a_smallestSets a_history_changed a_history_before g_slots g_history_size g_history_changed g_history_before q1 ((g_slots q1.toNatClampNeg) ||| ((1 : Int64) <<< (q2.toInt64 &&& 63))) u9.1 u9.2.1 u9.2.2.1 u9.2.2.2.1 u9.2.2.2.2 hu9) z6 0 7 rfl rfl [0, 1, 2, 3, 4] [] [0, 1, 2, 3, 4] rfl (by decide) rfl (by decide) (by decide) rfl (by decide) rfl hl.1 rfl (Nat.le_of_ble_eq_true rfl) dX7_put_46 ⟨Nat.zero_le _, Nat.zero_le _⟩ (fun H locs hP hD hS => ?_)
        have hE : (u9.1, u9.2.1, u9.2.2.1, u9.2.2.2.1, u9.2.2.2.2) = (r0, v_slots, v_history_size, v_history_changed, v_history_before) := Option.some.inj hf
        simp only [Prod.mk.injEq] at hE
        obtain ⟨rfl, rfl, rfl, rfl, rfl⟩ := hE
        exact rtI hx hb hr hlk hP hD hS dX7_put_49
      · have hf := br_neg c7 hf
        refine lv_bipush (v := -2) hx hb dX7_put_29 (by decide) ?_
        refine lv_goto (tgt := 49) hx hb dX7_put_31 (by decide) ?_
        have hE : ((-2 : Int32), g_slots, g_history_size, g_history_changed, g_history_before) = (r0, v_slots, v_history_size, v_history_changed, v_history_before) := Option.some.inj hf
        simp only [Prod.mk.injEq] at hE
        obtain ⟨rfl, rfl, rfl, rfl, rfl⟩ := hE
        exact rtI hx hb hr hlk hP hD hS dX7_put_49
    · have hf := br_pos c4 hf
      refine lv_iconst (v := -1) hx hb dX7_put_14 (by decide) ?_
      have hE : ((-1 : Int32), g_slots, g_history_size, g_history_changed, g_history_before) = (r0, v_slots, v_history_size, v_history_changed, v_history_before) := Option.some.inj hf
      simp only [Prod.mk.injEq] at hE
      obtain ⟨rfl, rfl, rfl, rfl, rfl⟩ := hE
      exact rtI hx hb hr hlk hP hD hS dX7_put_15
abbrev rmX7_take : Room := { frames := 3, cells := 0, slots := 0, locals := 110 }
noncomputable def fX7_take (q1 : Int32) (q2 : Int32) (g_slots : Nat → Int64) (g_history_size : Int32) (g_history_changed : Nat → Int32) (g_history_before : Nat → Int64) : Option (Int32 × (Nat → Int64) × Int32 × (Nat → Int32) × (Nat → Int64)) := bd (fX7_isSlot q1) (fun u1 => br (u1 = 0) (some (((-1 : Int32), g_slots, g_history_size, g_history_changed, g_history_before))) (bd (fX7_isNumber q2) (fun u3 => br (u3 = 0) (some (((-1 : Int32), g_slots, g_history_size, g_history_changed, g_history_before))) (gd (¬ q1 < 0 ∧ q1.toNatClampNeg < 4) (bd (fX7_has (g_slots q1.toNatClampNeg) q2) (fun u6 => br (u6 = 0) (some (((-2 : Int32), g_slots, g_history_size, g_history_changed, g_history_before))) (gd (¬ q1 < 0 ∧ q1.toNatClampNeg < 4) (bd (fX7_change q1 ((g_slots q1.toNatClampNeg) &&& (((1 : Int64) <<< (q2.toInt64 &&& 63)) ^^^ (-1 : Int64))) g_slots g_history_size g_history_changed g_history_before) (fun u9 => some ((u9.1, u9.2.1, u9.2.2.1, u9.2.2.2.1, u9.2.2.2.2)))))))))))
set_option maxHeartbeats 4000000 in
set_option maxRecDepth 100000 in
theorem cX7_take_ct (l : Launch) (D : va_G) (cI cL cC cZ : ClassId) (a_this a_slots a_script a_history a_sums a_addend a_grids a_pairings a_swellings a_smallestSets a_history_changed a_history_before : Nat) (g_slots : Nat → Int64) (g_history_size : Int32) (g_history_changed : Nat → Int32) (g_history_before : Nat → Int64) (q1 : Int32) (q2 : Int32) (r0 : Int32) (v_slots : Nat → Int64) (v_history_size : Int32) (v_history_changed : Nat → Int32) (v_history_before : Nat → Int64) (hf : fX7_take q1 q2 g_slots g_history_size g_history_changed g_history_before = some ((r0, v_slots, v_history_size, v_history_changed, v_history_before))) : CtI l yX7_take wsX7_take rmX7_take D (tyz cI cL cC cZ) [.ref a_this, .int q1, .int q2] [(a_this, .inr (7, [.ref a_slots, .ref a_script, .ref a_history, .ref a_sums, .ref a_addend, .ref a_grids, .ref a_pairings, .ref a_swellings, .ref a_smallestSets])), (a_slots, .inl (cL, 4, .inr (.inl g_slots))), (a_history, .inr (1, [.ref a_history_changed, .ref a_history_before, .int g_history_size])), (a_history_changed, .inl (cI, 6, .inl g_history_changed)), (a_history_before, .inl (cL, 6, .inr (.inl g_history_before)))] [(a_this, .inr (7, [.ref a_slots, .ref a_script, .ref a_history, .ref a_sums, .ref a_addend, .ref a_grids, .ref a_pairings, .ref a_swellings, .ref a_smallestSets])), (a_slots, .inl (cL, 4, .inr (.inl v_slots))), (a_history, .inr (1, [.ref a_history_changed, .ref a_history_before, .int v_history_size])), (a_history_changed, .inl (cI, 6, .inl v_history_changed)), (a_history_before, .inl (cL, 6, .inr (.inl v_history_before)))] r0 := by
  refine CtI.make (cc := cX7_take) (maxL := 3) (ty := .int) (by decide) rfl (Nat.le_of_ble_eq_true rfl) ?_
  intro p e s m below meth c A ls C0 hN hA hP hD hl
  obtain ⟨hx, hb, hr, hml, hown, hts, hlk⟩ := id C0
  have hown : s.vm.findClass RX7 = some m.cls := hown
  have hS : va_S A s.heap s.heap [] := va_S.rf
  have hP : va_P D vwCl [(a_this, .inr (7, [.ref a_slots, .ref a_script, .ref a_history, .ref a_sums, .ref a_addend, .ref a_grids, .ref a_pairings, .ref a_swellings, .ref a_smallestSets])), (a_slots, .inl (cL, 4, .inr (.inl g_slots))), (a_history, .inr (1, [.ref a_history_changed, .ref a_history_before, .int g_history_size])), (a_history_changed, .inl (cI, 6, .inl g_history_changed)), (a_history_before, .inl (cL, 6, .inr (.inl g_history_before)))] s.heap := hP
  have hD : va_D A [(a_this, .inr (7, [.ref a_slots, .ref a_script, .ref a_history, .ref a_sums, .ref a_addend, .ref a_grids, .ref a_pairings, .ref a_swellings, .ref a_smallestSets])), (a_slots, .inl (cL, 4, .inr (.inl g_slots))), (a_history, .inr (1, [.ref a_history_changed, .ref a_history_before, .int g_history_size])), (a_history_changed, .inl (cI, 6, .inl g_history_changed)), (a_history_before, .inl (cL, 6, .inr (.inl g_history_before)))] := hD
  have hl : lv_has ls 3 [(0, .ref a_this), (1, .int q1), (2, .int q2)] := hl
  have z1 := va_cwS (R := rmX7_take) (rm := rmX7_isSlot) (mc := 0) (ms := 0) 1 hts gX7_take_X7_isSlot rfl rfl rfl (by decide +kernel) ⟨Nat.le_of_ble_eq_true rfl, Nat.le_of_ble_eq_true rfl⟩
  have z2 := va_cwS (R := rmX7_take) (rm := rmX7_isNumber) (mc := 0) (ms := 0) 1 hts gX7_take_X7_isNumber rfl rfl rfl (by decide +kernel) ⟨Nat.le_of_ble_eq_true rfl, Nat.le_of_ble_eq_true rfl⟩
  have z3 : ∀ w ∈ u_ws RX7 TX7 9, w ∈ wsX7_take := by decide +kernel
  have z4 := hts (.fieldLink RX7 9 "LittleSums" "slots" "[J") (by decide +kernel)
  have z5 := va_cwS (R := rmX7_take) (rm := rmX7_has) (mc := 0) (ms := 0) 2 hts gX7_take_X7_has rfl rfl rfl (by decide +kernel) ⟨Nat.le_of_ble_eq_true rfl, Nat.le_of_ble_eq_true rfl⟩
  have z6 := hts (.constantLong RX7 110 (-1)) (by decide +kernel)
  have z7 := cwV (R := rmX7_take) (rm := rmX7_change) (mc := 0) (ms := 0) 2 hts gX7_take_X7_change rfl rfl rfl (by decide +kernel) ⟨Nat.le_of_ble_eq_true rfl, Nat.le_of_ble_eq_true rfl⟩
  unfold fX7_take at hf
  obtain ⟨H, eH⟩ : ∃ z, z = s.heap := ⟨_, rfl⟩
  obtain ⟨locs, eL⟩ : ∃ z : List Loc, z = [] := ⟨_, rfl⟩
  have hP : va_P D vwCl [(a_this, .inr (7, [.ref a_slots, .ref a_script, .ref a_history, .ref a_sums, .ref a_addend, .ref a_grids, .ref a_pairings, .ref a_swellings, .ref a_smallestSets])), (a_slots, .inl (cL, 4, .inr (.inl g_slots))), (a_history, .inr (1, [.ref a_history_changed, .ref a_history_before, .int g_history_size])), (a_history_changed, .inl (cI, 6, .inl g_history_changed)), (a_history_before, .inl (cL, 6, .inr (.inl g_history_before)))] H := by rw [eH]; exact hP
  have hS : va_S A s.heap H locs := by rw [eH, eL]; exact hS
  suffices hG : W p l e rmX7_take s m ([.ref a_this, .int q1, .int q2] : List Value).toArray below meth c H locs 0 0 (MQ below (cQi D r0 A [(a_this, .inr (7, [.ref a_slots, .ref a_script, .ref a_history, .ref a_sums, .ref a_addend, .ref a_grids, .ref a_pairings, .ref a_swellings, .ref a_smallestSets])), (a_slots, .inl (cL, 4, .inr (.inl v_slots))), (a_history, .inr (1, [.ref a_history_changed, .ref a_history_before, .int v_history_size])), (a_history_changed, .inl (cI, 6, .inl v_history_changed)), (a_history_before, .inl (cL, 6, .inr (.inl v_history_before)))]) ([.ref a_this, .int q1, .int q2] : List Value).toArray s 0 0 A) (F0 m 0 ls []) by rw [eH, eL] at hG; exact hG
  refine lv_iload_n hx hb dX7_take_0 rfl (lv_at hl 1 rfl) ?_
  obtain ⟨u1, hu1, hf⟩ := bd_some hf
  refine caSI (rest := []) (As := [.int q1]) (wr := [(a_this, .inr (7, [.ref a_slots, .ref a_script, .ref a_history, .ref a_sums, .ref a_addend, .ref a_grids, .ref a_pairings, .ref a_swellings, .ref a_smallestSets])), (a_slots, .inl (cL, 4, .inr (.inl g_slots))), (a_history, .inr (1, [.ref a_history_changed, .ref a_history_before, .int g_history_size])), (a_history_changed, .inl (cI, 6, .inl g_history_changed)), (a_history_before, .inl (cL, 6, .inr (.inl g_history_before)))]) (wo := [(a_this, .inr (7, [.ref a_slots, .ref a_script, .ref a_history, .ref a_sums, .ref a_addend, .ref a_grids, .ref a_pairings, .ref a_swellings, .ref a_smallestSets])), (a_slots, .inl (cL, 4, .inr (.inl g_slots))), (a_history, .inr (1, [.ref a_history_changed, .ref a_history_before, .int g_history_size])), (a_history_changed, .inl (cI, 6, .inl g_history_changed)), (a_history_before, .inl (cL, 6, .inr (.inl g_history_before)))]) ⟨hx, hb, hml, hown, hts⟩ hN hP hD hS hA (cX7_isSlot_ct l D cI cL cC cZ q1 u1 hu1) z1 [] [0, 1, 2, 3, 4] [0, 1, 2, 3, 4] rfl (by decide) rfl (by decide) (by decide) rfl (by decide) rfl hl.1 rfl (Nat.le_of_ble_eq_true rfl) dX7_take_1 ⟨Nat.zero_le _, Nat.zero_le _⟩ (fun H locs hP hD hS => ?_)
  refine lv_if_eq (tgt := 14) hx hb dX7_take_4 (by decide) (fun c2 => ?_) (fun c2 => ?_)
  · have hf := br_pos c2 hf
    refine lv_iconst (v := -1) hx hb dX7_take_14 (by decide) ?_
    have hE : ((-1 : Int32), g_slots, g_history_size, g_history_changed, g_history_before) = (r0, v_slots, v_history_size, v_history_changed, v_history_before) := Option.some.inj hf
    simp only [Prod.mk.injEq] at hE
    obtain ⟨rfl, rfl, rfl, rfl, rfl⟩ := hE
    exact rtI hx hb hr hlk hP hD hS dX7_take_15
  · have hf := br_neg c2 hf
    refine lv_iload_n hx hb dX7_take_7 rfl (lv_at hl 2 rfl) ?_
    obtain ⟨u3, hu3, hf⟩ := bd_some hf
    refine caSI (rest := []) (As := [.int q2]) (wr := [(a_this, .inr (7, [.ref a_slots, .ref a_script, .ref a_history, .ref a_sums, .ref a_addend, .ref a_grids, .ref a_pairings, .ref a_swellings, .ref a_smallestSets])), (a_slots, .inl (cL, 4, .inr (.inl g_slots))), (a_history, .inr (1, [.ref a_history_changed, .ref a_history_before, .int g_history_size])), (a_history_changed, .inl (cI, 6, .inl g_history_changed)), (a_history_before, .inl (cL, 6, .inr (.inl g_history_before)))]) (wo := [(a_this, .inr (7, [.ref a_slots, .ref a_script, .ref a_history, .ref a_sums, .ref a_addend, .ref a_grids, .ref a_pairings, .ref a_swellings, .ref a_smallestSets])), (a_slots, .inl (cL, 4, .inr (.inl g_slots))), (a_history, .inr (1, [.ref a_history_changed, .ref a_history_before, .int g_history_size])), (a_history_changed, .inl (cI, 6, .inl g_history_changed)), (a_history_before, .inl (cL, 6, .inr (.inl g_history_before)))]) ⟨hx, hb, hml, hown, hts⟩ hN hP hD hS hA (cX7_isNumber_ct l D cI cL cC cZ q2 u3 hu3) z2 [] [0, 1, 2, 3, 4] [0, 1, 2, 3, 4] rfl (by decide) rfl (by decide) (by decide) rfl (by decide) rfl hl.1 rfl (Nat.le_of_ble_eq_true rfl) dX7_take_8 ⟨Nat.zero_le _, Nat.zero_le _⟩ (fun H locs hP hD hS => ?_)
    refine lv_if_ne (tgt := 16) hx hb dX7_take_11 (by decide) (fun c4 => ?_) (fun c4 => ?_)
    · have hf := br_neg c4 hf
      refine lv_aload_n hx hb dX7_take_16 rfl (lv_at hl 0 rfl) ?_
      refine va_get (D := D) (ci := 7) (v := .ref a_slots) (C := RX7) (T := TX7) (N := 9) hx hb hts z3 hown hN.1 hP 0 rfl rfl 0 (by decide) z4 (fun _ h9 => h9) rfl dX7_take_17 ?_
      refine lv_iload_n hx hb dX7_take_20 rfl (lv_at hl 1 rfl) ?_
      obtain ⟨c5, hf⟩ := gd_some hf
      refine va_lald hx hb hN.1 hP 1 1 rfl rfl (ix_in c5) dX7_take_21 ?_
      refine lv_iload_n hx hb dX7_take_22 rfl (lv_at hl 2 rfl) ?_
      obtain ⟨u6, hu6, hf⟩ := bd_some hf
      refine caSI (rest := []) (As := [.long (g_slots q1.toNatClampNeg), .int q2]) (wr := [(a_this, .inr (7, [.ref a_slots, .ref a_script, .ref a_history, .ref a_sums, .ref a_addend, .ref a_grids, .ref a_pairings, .ref a_swellings, .ref a_smallestSets])), (a_slots, .inl (cL, 4, .inr (.inl g_slots))), (a_history, .inr (1, [.ref a_history_changed, .ref a_history_before, .int g_history_size])), (a_history_changed, .inl (cI, 6, .inl g_history_changed)), (a_history_before, .inl (cL, 6, .inr (.inl g_history_before)))]) (wo := [(a_this, .inr (7, [.ref a_slots, .ref a_script, .ref a_history, .ref a_sums, .ref a_addend, .ref a_grids, .ref a_pairings, .ref a_swellings, .ref a_smallestSets])), (a_slots, .inl (cL, 4, .inr (.inl g_slots))), (a_history, .inr (1, [.ref a_history_changed, .ref a_history_before, .int g_history_size])), (a_history_changed, .inl (cI, 6, .inl g_history_changed)), (a_history_before, .inl (cL, 6, .inr (.inl g_history_before)))]) ⟨hx, hb, hml, hown, hts⟩ hN hP hD hS hA (cX7_has_ct l D cI cL cC cZ (g_slots q1.toNatClampNeg) q2 u6 hu6) z5 [] [0, 1, 2, 3, 4] [0, 1, 2, 3, 4] rfl (by decide) rfl (by decide) (by decide) rfl (by decide) rfl hl.1 rfl (Nat.le_of_ble_eq_true rfl) dX7_take_23 ⟨Nat.zero_le _, Nat.zero_le _⟩ (fun H locs hP hD hS => ?_)
      refine lv_if_eq (tgt := 51) hx hb dX7_take_26 (by decide) (fun c7 => ?_) (fun c7 => ?_)
      · have hf := br_pos c7 hf
        refine lv_bipush (v := -2) hx hb dX7_take_51 (by decide) ?_
        have hE : ((-2 : Int32), g_slots, g_history_size, g_history_changed, g_history_before) = (r0, v_slots, v_history_size, v_history_changed, v_history_before) := Option.some.inj hf
        simp only [Prod.mk.injEq] at hE
        obtain ⟨rfl, rfl, rfl, rfl, rfl⟩ := hE
        exact rtI hx hb hr hlk hP hD hS dX7_take_53
      · have hf := br_neg c7 hf
        refine lv_aload_n hx hb dX7_take_29 rfl (lv_at hl 0 rfl) ?_
        refine lv_iload_n hx hb dX7_take_30 rfl (lv_at hl 1 rfl) ?_
        refine lv_aload_n hx hb dX7_take_31 rfl (lv_at hl 0 rfl) ?_
        refine va_get (D := D) (ci := 7) (v := .ref a_slots) (C := RX7) (T := TX7) (N := 9) hx hb hts z3 hown hN.1 hP 0 rfl rfl 0 (by decide) z4 (fun _ h9 => h9) rfl dX7_take_32 ?_
        refine lv_iload_n hx hb dX7_take_35 rfl (lv_at hl 1 rfl) ?_
        obtain ⟨c8, hf⟩ := gd_some hf
        refine va_lald hx hb hN.1 hP 1 1 rfl rfl (ix_in c8) dX7_take_36 ?_
        refine lv_lconst (v := 1) hx hb dX7_take_37 (by decide) ?_
        refine lv_iload_n hx hb dX7_take_38 rfl (lv_at hl 2 rfl) ?_
        refine lv_lshl hx hb dX7_take_39 rfl ?_
        refine lv_ldc2 (v := -1) hx hb hown z6 dX7_take_40 ?_
        refine lv_lxor hx hb dX7_take_43 ?_
        refine lv_land hx hb dX7_take_44 ?_
        obtain ⟨u9, hu9, hf⟩ := bd_some hf
        refine caVI (rest := []) (As := [.int q1, .long ((g_slots q1.toNatClampNeg) &&& (((1 : Int64) <<< (q2.toInt64 &&& 63)) ^^^ (-1 : Int64)))]) (wr := []) (wo := [(a_this, .inr (7, [.ref a_slots, .ref a_script, .ref a_history, .ref a_sums, .ref a_addend, .ref a_grids, .ref a_pairings, .ref a_swellings, .ref a_smallestSets])), (a_slots, .inl (cL, 4, .inr (.inl u9.2.1))), (a_history, .inr (1, [.ref a_history_changed, .ref a_history_before, .int u9.2.2.1])), (a_history_changed, .inl (cI, 6, .inl u9.2.2.2.1)), (a_history_before, .inl (cL, 6, .inr (.inl u9.2.2.2.2)))]) ⟨hx, hb, hml, hown, hts⟩ hN hP hD hS hA (cX7_change_ct l D cI cL cC cZ a_this a_slots a_script a_history a_sums a_addend a_grids a_pairings a_swellings a_smallestSets a_history_changed a_history_before g_slots g_history_size g_history_changed g_history_before q1 ((g_slots q1.toNatClampNeg) &&& (((1 : Int64) <<< (q2.toInt64 &&& 63)) ^^^ (-1 : Int64))) u9.1 u9.2.1 u9.2.2.1 u9.2.2.2.1 u9.2.2.2.2 hu9) z7 0 7 rfl rfl [0, 1, 2, 3, 4] [] [0, 1, 2, 3, 4] rfl (by decide) rfl (by decide) (by decide) rfl (by decide) rfl hl.1 rfl (Nat.le_of_ble_eq_true rfl) dX7_take_45 ⟨Nat.zero_le _, Nat.zero_le _⟩ (fun H locs hP hD hS => ?_)
        refine lv_goto (tgt := 53) hx hb dX7_take_48 (by decide) ?_
        have hE : (u9.1, u9.2.1, u9.2.2.1, u9.2.2.2.1, u9.2.2.2.2) = (r0, v_slots, v_history_size, v_history_changed, v_history_before) := Option.some.inj hf
        simp only [Prod.mk.injEq] at hE
        obtain ⟨rfl, rfl, rfl, rfl, rfl⟩ := hE
        exact rtI hx hb hr hlk hP hD hS dX7_take_53
    · have hf := br_pos c4 hf
      refine lv_iconst (v := -1) hx hb dX7_take_14 (by decide) ?_
      have hE : ((-1 : Int32), g_slots, g_history_size, g_history_changed, g_history_before) = (r0, v_slots, v_history_size, v_history_changed, v_history_before) := Option.some.inj hf
      simp only [Prod.mk.injEq] at hE
      obtain ⟨rfl, rfl, rfl, rfl, rfl⟩ := hE
      exact rtI hx hb hr hlk hP hD hS dX7_take_15
abbrev rmX7_findSums : Room := { frames := 3, cells := 0, slots := 0, locals := 69 }
noncomputable def fX7_findSums (q1 : Int64) (q3 : Int64) (g_sums_words : Nat → Int64) (g_addend_words : Nat → Int64) : Option ((Nat → Int64) × (Nat → Int64)) := bd (fX6_become q3 g_addend_words) (fun u1 => bd (fX6_becomeSumsOf q1 g_sums_words u1) (fun u2 => some ((u2, u1))))
set_option maxHeartbeats 4000000 in
set_option maxRecDepth 100000 in
theorem cX7_findSums_ct (l : Launch) (D : va_G) (cI cL cC cZ : ClassId) (a_this a_slots a_script a_history a_sums a_addend a_grids a_pairings a_swellings a_smallestSets a_sums_words a_addend_words : Nat) (g_sums_words : Nat → Int64) (g_addend_words : Nat → Int64) (q1 : Int64) (q3 : Int64) (v_sums_words : Nat → Int64) (v_addend_words : Nat → Int64) (hf : fX7_findSums q1 q3 g_sums_words g_addend_words = some ((v_sums_words, v_addend_words))) : CtV l yX7_findSums wsX7_findSums rmX7_findSums D (tyz cI cL cC cZ) [.ref a_this, .long q1, .long q3] [(a_this, .inr (7, [.ref a_slots, .ref a_script, .ref a_history, .ref a_sums, .ref a_addend, .ref a_grids, .ref a_pairings, .ref a_swellings, .ref a_smallestSets])), (a_sums, .inr (6, [.ref a_sums_words])), (a_sums_words, .inl (cL, 4, .inr (.inl g_sums_words))), (a_addend, .inr (6, [.ref a_addend_words])), (a_addend_words, .inl (cL, 4, .inr (.inl g_addend_words)))] [(a_this, .inr (7, [.ref a_slots, .ref a_script, .ref a_history, .ref a_sums, .ref a_addend, .ref a_grids, .ref a_pairings, .ref a_swellings, .ref a_smallestSets])), (a_sums, .inr (6, [.ref a_sums_words])), (a_sums_words, .inl (cL, 4, .inr (.inl v_sums_words))), (a_addend, .inr (6, [.ref a_addend_words])), (a_addend_words, .inl (cL, 4, .inr (.inl v_addend_words)))] := by
  refine CtV.make (cc := cX7_findSums) (maxL := 5) (by decide) rfl (Nat.le_of_ble_eq_true rfl) ?_
  intro p e s m below meth c A ls C0 hN hA hP hD hl
  obtain ⟨hx, hb, hr, hml, hown, hts, hlk⟩ := id C0
  have hown : s.vm.findClass RX7 = some m.cls := hown
  have hS : va_S A s.heap s.heap [] := va_S.rf
  have hP : va_P D vwCl [(a_this, .inr (7, [.ref a_slots, .ref a_script, .ref a_history, .ref a_sums, .ref a_addend, .ref a_grids, .ref a_pairings, .ref a_swellings, .ref a_smallestSets])), (a_sums, .inr (6, [.ref a_sums_words])), (a_sums_words, .inl (cL, 4, .inr (.inl g_sums_words))), (a_addend, .inr (6, [.ref a_addend_words])), (a_addend_words, .inl (cL, 4, .inr (.inl g_addend_words)))] s.heap := hP
  have hD : va_D A [(a_this, .inr (7, [.ref a_slots, .ref a_script, .ref a_history, .ref a_sums, .ref a_addend, .ref a_grids, .ref a_pairings, .ref a_swellings, .ref a_smallestSets])), (a_sums, .inr (6, [.ref a_sums_words])), (a_sums_words, .inl (cL, 4, .inr (.inl g_sums_words))), (a_addend, .inr (6, [.ref a_addend_words])), (a_addend_words, .inl (cL, 4, .inr (.inl g_addend_words)))] := hD
  have hl : lv_has ls 5 [(0, .ref a_this), (1, .long q1), (3, .long q3)] := hl
  have z1 : ∀ w ∈ u_ws RX7 TX7 9, w ∈ wsX7_findSums := by decide +kernel
  have z2 := hts (.fieldLink RX7 34 "LittleSums" "addend" "LLittleSums$Wide;") (by decide +kernel)
  have z3 := cwV (R := rmX7_findSums) (rm := rmX6_become) (mc := 0) (ms := 0) 1 hts gX7_findSums_X6_become rfl rfl rfl (by decide +kernel) ⟨Nat.le_of_ble_eq_true rfl, Nat.le_of_ble_eq_true rfl⟩
  have z4 := hts (.fieldLink RX7 30 "LittleSums" "sums" "LLittleSums$Wide;") (by decide +kernel)
  have z5 := cwV (R := rmX7_findSums) (rm := rmX6_becomeSumsOf) (mc := 0) (ms := 0) 2 hts gX7_findSums_X6_becomeSumsOf rfl rfl rfl (by decide +kernel) ⟨Nat.le_of_ble_eq_true rfl, Nat.le_of_ble_eq_true rfl⟩
  unfold fX7_findSums at hf
  obtain ⟨H, eH⟩ : ∃ z, z = s.heap := ⟨_, rfl⟩
  obtain ⟨locs, eL⟩ : ∃ z : List Loc, z = [] := ⟨_, rfl⟩
  have hP : va_P D vwCl [(a_this, .inr (7, [.ref a_slots, .ref a_script, .ref a_history, .ref a_sums, .ref a_addend, .ref a_grids, .ref a_pairings, .ref a_swellings, .ref a_smallestSets])), (a_sums, .inr (6, [.ref a_sums_words])), (a_sums_words, .inl (cL, 4, .inr (.inl g_sums_words))), (a_addend, .inr (6, [.ref a_addend_words])), (a_addend_words, .inl (cL, 4, .inr (.inl g_addend_words)))] H := by rw [eH]; exact hP
  have hS : va_S A s.heap H locs := by rw [eH, eL]; exact hS
  suffices hG : W p l e rmX7_findSums s m ([.ref a_this, .long q1, .long q3] : List Value).toArray below meth c H locs 0 0 (MQ below (cQv D A [(a_this, .inr (7, [.ref a_slots, .ref a_script, .ref a_history, .ref a_sums, .ref a_addend, .ref a_grids, .ref a_pairings, .ref a_swellings, .ref a_smallestSets])), (a_sums, .inr (6, [.ref a_sums_words])), (a_sums_words, .inl (cL, 4, .inr (.inl v_sums_words))), (a_addend, .inr (6, [.ref a_addend_words])), (a_addend_words, .inl (cL, 4, .inr (.inl v_addend_words)))]) ([.ref a_this, .long q1, .long q3] : List Value).toArray s 0 0 A) (F0 m 0 ls []) by rw [eH, eL] at hG; exact hG
  refine lv_aload_n hx hb dX7_findSums_0 rfl (lv_at hl 0 rfl) ?_
  refine va_get (D := D) (ci := 7) (v := .ref a_addend) (C := RX7) (T := TX7) (N := 9) hx hb hts z1 hown hN.1 hP 0 rfl rfl 4 (by decide) z2 (fun _ h9 => h9) rfl dX7_findSums_1 ?_
  refine lv_lload_n hx hb dX7_findSums_4 rfl (lv_at hl 2 rfl) ?_
  obtain ⟨u1, hu1, hf⟩ := bd_some hf
  refine caVV (rest := []) (As := [.long q3]) (wr := [(a_this, .inr (7, [.ref a_slots, .ref a_script, .ref a_history, .ref a_sums, .ref a_addend, .ref a_grids, .ref a_pairings, .ref a_swellings, .ref a_smallestSets])), (a_sums, .inr (6, [.ref a_sums_words])), (a_sums_words, .inl (cL, 4, .inr (.inl g_sums_words)))]) (wo := [(a_this, .inr (7, [.ref a_slots, .ref a_script, .ref a_history, .ref a_sums, .ref a_addend, .ref a_grids, .ref a_pairings, .ref a_swellings, .ref a_smallestSets])), (a_sums, .inr (6, [.ref a_sums_words])), (a_sums_words, .inl (cL, 4, .inr (.inl g_sums_words))), (a_addend, .inr (6, [.ref a_addend_words])), (a_addend_words, .inl (cL, 4, .inr (.inl u1)))]) ⟨hx, hb, hml, hown, hts⟩ hN hP hD hS hA (cX6_become_ct l D cI cL cC cZ a_addend a_addend_words g_addend_words q3 u1 hu1) z3 3 6 rfl rfl [3, 4] [0, 1, 2] [0, 1, 2, 3, 4] rfl (by decide) rfl (by decide) (by decide) rfl (by decide) rfl hl.1 rfl (Nat.le_of_ble_eq_true rfl) dX7_findSums_5 ⟨Nat.zero_le _, Nat.zero_le _⟩ (fun H locs hP hD hS => ?_)
  refine lv_aload_n hx hb dX7_findSums_8 rfl (lv_at hl 0 rfl) ?_
  refine va_get (D := D) (ci := 7) (v := .ref a_sums) (C := RX7) (T := TX7) (N := 9) hx hb hts z1 hown hN.1 hP 0 rfl rfl 3 (by decide) z4 (fun _ h9 => h9) rfl dX7_findSums_9 ?_
  refine lv_lload_n hx hb dX7_findSums_12 rfl (lv_at hl 1 rfl) ?_
  refine lv_aload_n hx hb dX7_findSums_13 rfl (lv_at hl 0 rfl) ?_
  refine va_get (D := D) (ci := 7) (v := .ref a_addend) (C := RX7) (T := TX7) (N := 9) hx hb hts z1 hown hN.1 hP 0 rfl rfl 4 (by decide) z2 (fun _ h9 => h9) rfl dX7_findSums_14 ?_
  obtain ⟨u2, hu2, hf⟩ := bd_some hf
  refine caVV (rest := []) (As := [.long q1, .ref a_addend]) (wr := [(a_this, .inr (7, [.ref a_slots, .ref a_script, .ref a_history, .ref a_sums, .ref a_addend, .ref a_grids, .ref a_pairings, .ref a_swellings, .ref a_smallestSets]))]) (wo := [(a_this, .inr (7, [.ref a_slots, .ref a_script, .ref a_history, .ref a_sums, .ref a_addend, .ref a_grids, .ref a_pairings, .ref a_swellings, .ref a_smallestSets])), (a_sums, .inr (6, [.ref a_sums_words])), (a_sums_words, .inl (cL, 4, .inr (.inl u2))), (a_addend, .inr (6, [.ref a_addend_words])), (a_addend_words, .inl (cL, 4, .inr (.inl u1)))]) ⟨hx, hb, hml, hown, hts⟩ hN hP hD hS hA (cX6_becomeSumsOf_ct l D cI cL cC cZ a_sums a_addend a_sums_words a_addend_words g_sums_words u1 q1 u2 hu2) z5 1 6 rfl rfl [1, 2, 3, 4] [0] [0, 1, 2, 3, 4] rfl (by decide) rfl (by decide) (by decide) rfl (by decide) rfl hl.1 rfl (Nat.le_of_ble_eq_true rfl) dX7_findSums_17 ⟨Nat.zero_le _, Nat.zero_le _⟩ (fun H locs hP hD hS => ?_)
  have hE : (u2, u1) = (v_sums_words, v_addend_words) := Option.some.inj hf
  simp only [Prod.mk.injEq] at hE
  obtain ⟨rfl, rfl⟩ := hE
  exact rtV hx hb hr hlk hP hD hS dX7_findSums_20
abbrev rmX7_becomeSums : Room := { frames := 4, cells := 0, slots := 0, locals := 110 }
noncomputable def fX7_becomeSums (q1 : Int32) (q2 : Int32) (q3 : Int32) (g_slots : Nat → Int64) (g_history_size : Int32) (g_history_changed : Nat → Int32) (g_history_before : Nat → Int64) (g_sums_words : Nat → Int64) (g_addend_words : Nat → Int64) : Option (Int32 × (Nat → Int64) × Int32 × (Nat → Int32) × (Nat → Int64) × (Nat → Int64) × (Nat → Int64)) := bd (fX7_isSlot q1) (fun u1 => br (u1 = 0) (some (((-1 : Int32), g_slots, g_history_size, g_history_changed, g_history_before, g_sums_words, g_addend_words))) (bd (fX7_isSlot q2) (fun u3 => br (u3 = 0) (some (((-1 : Int32), g_slots, g_history_size, g_history_changed, g_history_before, g_sums_words, g_addend_words))) (bd (fX7_isSlot q3) (fun u5 => br (u5 = 0) (some (((-1 : Int32), g_slots, g_history_size, g_history_changed, g_history_before, g_sums_words, g_addend_words))) (gd (¬ q2 < 0 ∧ q2.toNatClampNeg < 4) (gd (¬ q3 < 0 ∧ q3.toNatClampNeg < 4) (bd (fX7_findSums (g_slots q2.toNatClampNeg) (g_slots q3.toNatClampNeg) g_sums_words g_addend_words) (fun u9 => bd (fX6_greatest u9.1) (fun u10 => br (u10 ≤ (40 : Int32)) (bd (fX6_lowest64 u9.1) (fun u12 => bd (fX7_change q1 u12 g_slots g_history_size g_history_changed g_history_before) (fun u13 => some ((u13.1, u13.2.1, u13.2.2.1, u13.2.2.2.1, u13.2.2.2.2, u9.1, u9.2))))) (some (((-2 : Int32), g_slots, g_history_size, g_history_changed, g_history_before, u9.1, u9.2)))))))))))))
set_option maxHeartbeats 4000000 in
set_option maxRecDepth 100000 in
theorem cX7_becomeSums_ct (l : Launch) (D : va_G) (cI cL cC cZ : ClassId) (a_this a_slots a_script a_history a_sums a_addend a_grids a_pairings a_swellings a_smallestSets a_history_changed a_history_before a_sums_words a_addend_words : Nat) (g_slots : Nat → Int64) (g_history_size : Int32) (g_history_changed : Nat → Int32) (g_history_before : Nat → Int64) (g_sums_words : Nat → Int64) (g_addend_words : Nat → Int64) (q1 : Int32) (q2 : Int32) (q3 : Int32) (r0 : Int32) (v_slots : Nat → Int64) (v_history_size : Int32) (v_history_changed : Nat → Int32) (v_history_before : Nat → Int64) (v_sums_words : Nat → Int64) (v_addend_words : Nat → Int64) (hf : fX7_becomeSums q1 q2 q3 g_slots g_history_size g_history_changed g_history_before g_sums_words g_addend_words = some ((r0, v_slots, v_history_size, v_history_changed, v_history_before, v_sums_words, v_addend_words))) : CtI l yX7_becomeSums wsX7_becomeSums rmX7_becomeSums D (tyz cI cL cC cZ) [.ref a_this, .int q1, .int q2, .int q3] [(a_this, .inr (7, [.ref a_slots, .ref a_script, .ref a_history, .ref a_sums, .ref a_addend, .ref a_grids, .ref a_pairings, .ref a_swellings, .ref a_smallestSets])), (a_slots, .inl (cL, 4, .inr (.inl g_slots))), (a_history, .inr (1, [.ref a_history_changed, .ref a_history_before, .int g_history_size])), (a_history_changed, .inl (cI, 6, .inl g_history_changed)), (a_history_before, .inl (cL, 6, .inr (.inl g_history_before))), (a_sums, .inr (6, [.ref a_sums_words])), (a_sums_words, .inl (cL, 4, .inr (.inl g_sums_words))), (a_addend, .inr (6, [.ref a_addend_words])), (a_addend_words, .inl (cL, 4, .inr (.inl g_addend_words)))] [(a_this, .inr (7, [.ref a_slots, .ref a_script, .ref a_history, .ref a_sums, .ref a_addend, .ref a_grids, .ref a_pairings, .ref a_swellings, .ref a_smallestSets])), (a_slots, .inl (cL, 4, .inr (.inl v_slots))), (a_history, .inr (1, [.ref a_history_changed, .ref a_history_before, .int v_history_size])), (a_history_changed, .inl (cI, 6, .inl v_history_changed)), (a_history_before, .inl (cL, 6, .inr (.inl v_history_before))), (a_sums, .inr (6, [.ref a_sums_words])), (a_sums_words, .inl (cL, 4, .inr (.inl v_sums_words))), (a_addend, .inr (6, [.ref a_addend_words])), (a_addend_words, .inl (cL, 4, .inr (.inl v_addend_words)))] r0 := by
  refine CtI.make (cc := cX7_becomeSums) (maxL := 4) (ty := .int) (by decide) rfl (Nat.le_of_ble_eq_true rfl) ?_
  intro p e s m below meth c A ls C0 hN hA hP hD hl
  obtain ⟨hx, hb, hr, hml, hown, hts, hlk⟩ := id C0
  have hown : s.vm.findClass RX7 = some m.cls := hown
  have hS : va_S A s.heap s.heap [] := va_S.rf
  have hP : va_P D vwCl [(a_this, .inr (7, [.ref a_slots, .ref a_script, .ref a_history, .ref a_sums, .ref a_addend, .ref a_grids, .ref a_pairings, .ref a_swellings, .ref a_smallestSets])), (a_slots, .inl (cL, 4, .inr (.inl g_slots))), (a_history, .inr (1, [.ref a_history_changed, .ref a_history_before, .int g_history_size])), (a_history_changed, .inl (cI, 6, .inl g_history_changed)), (a_history_before, .inl (cL, 6, .inr (.inl g_history_before))), (a_sums, .inr (6, [.ref a_sums_words])), (a_sums_words, .inl (cL, 4, .inr (.inl g_sums_words))), (a_addend, .inr (6, [.ref a_addend_words])), (a_addend_words, .inl (cL, 4, .inr (.inl g_addend_words)))] s.heap := hP
  have hD : va_D A [(a_this, .inr (7, [.ref a_slots, .ref a_script, .ref a_history, .ref a_sums, .ref a_addend, .ref a_grids, .ref a_pairings, .ref a_swellings, .ref a_smallestSets])), (a_slots, .inl (cL, 4, .inr (.inl g_slots))), (a_history, .inr (1, [.ref a_history_changed, .ref a_history_before, .int g_history_size])), (a_history_changed, .inl (cI, 6, .inl g_history_changed)), (a_history_before, .inl (cL, 6, .inr (.inl g_history_before))), (a_sums, .inr (6, [.ref a_sums_words])), (a_sums_words, .inl (cL, 4, .inr (.inl g_sums_words))), (a_addend, .inr (6, [.ref a_addend_words])), (a_addend_words, .inl (cL, 4, .inr (.inl g_addend_words)))] := hD
  have hl : lv_has ls 4 [(0, .ref a_this), (1, .int q1), (2, .int q2), (3, .int q3)] := hl
  have z1 := va_cwS (R := rmX7_becomeSums) (rm := rmX7_isSlot) (mc := 0) (ms := 0) 1 hts gX7_becomeSums_X7_isSlot rfl rfl rfl (by decide +kernel) ⟨Nat.le_of_ble_eq_true rfl, Nat.le_of_ble_eq_true rfl⟩
  have z2 : ∀ w ∈ u_ws RX7 TX7 9, w ∈ wsX7_becomeSums := by decide +kernel
  have z3 := hts (.fieldLink RX7 9 "LittleSums" "slots" "[J") (by decide +kernel)
  have z4 := cwV (R := rmX7_becomeSums) (rm := rmX7_findSums) (mc := 0) (ms := 0) 2 hts gX7_becomeSums_X7_findSums rfl rfl rfl (by decide +kernel) ⟨Nat.le_of_ble_eq_true rfl, Nat.le_of_ble_eq_true rfl⟩
  have z5 := hts (.fieldLink RX7 30 "LittleSums" "sums" "LLittleSums$Wide;") (by decide +kernel)
  have z6 := cwV (R := rmX7_becomeSums) (rm := rmX6_greatest) (mc := 0) (ms := 0) 0 hts gX7_becomeSums_X6_greatest rfl rfl rfl (by decide +kernel) ⟨Nat.le_of_ble_eq_true rfl, Nat.le_of_ble_eq_true rfl⟩
  have z7 := cwV (R := rmX7_becomeSums) (rm := rmX6_lowest64) (mc := 0) (ms := 0) 0 hts gX7_becomeSums_X6_lowest64 rfl rfl rfl (by decide +kernel) ⟨Nat.le_of_ble_eq_true rfl, Nat.le_of_ble_eq_true rfl⟩
  have z8 := cwV (R := rmX7_becomeSums) (rm := rmX7_change) (mc := 0) (ms := 0) 2 hts gX7_becomeSums_X7_change rfl rfl rfl (by decide +kernel) ⟨Nat.le_of_ble_eq_true rfl, Nat.le_of_ble_eq_true rfl⟩
  unfold fX7_becomeSums at hf
  obtain ⟨H, eH⟩ : ∃ z, z = s.heap := ⟨_, rfl⟩
  obtain ⟨locs, eL⟩ : ∃ z : List Loc, z = [] := ⟨_, rfl⟩
  have hP : va_P D vwCl [(a_this, .inr (7, [.ref a_slots, .ref a_script, .ref a_history, .ref a_sums, .ref a_addend, .ref a_grids, .ref a_pairings, .ref a_swellings, .ref a_smallestSets])), (a_slots, .inl (cL, 4, .inr (.inl g_slots))), (a_history, .inr (1, [.ref a_history_changed, .ref a_history_before, .int g_history_size])), (a_history_changed, .inl (cI, 6, .inl g_history_changed)), (a_history_before, .inl (cL, 6, .inr (.inl g_history_before))), (a_sums, .inr (6, [.ref a_sums_words])), (a_sums_words, .inl (cL, 4, .inr (.inl g_sums_words))), (a_addend, .inr (6, [.ref a_addend_words])), (a_addend_words, .inl (cL, 4, .inr (.inl g_addend_words)))] H := by rw [eH]; exact hP
  have hS : va_S A s.heap H locs := by rw [eH, eL]; exact hS
  suffices hG : W p l e rmX7_becomeSums s m ([.ref a_this, .int q1, .int q2, .int q3] : List Value).toArray below meth c H locs 0 0 (MQ below (cQi D r0 A [(a_this, .inr (7, [.ref a_slots, .ref a_script, .ref a_history, .ref a_sums, .ref a_addend, .ref a_grids, .ref a_pairings, .ref a_swellings, .ref a_smallestSets])), (a_slots, .inl (cL, 4, .inr (.inl v_slots))), (a_history, .inr (1, [.ref a_history_changed, .ref a_history_before, .int v_history_size])), (a_history_changed, .inl (cI, 6, .inl v_history_changed)), (a_history_before, .inl (cL, 6, .inr (.inl v_history_before))), (a_sums, .inr (6, [.ref a_sums_words])), (a_sums_words, .inl (cL, 4, .inr (.inl v_sums_words))), (a_addend, .inr (6, [.ref a_addend_words])), (a_addend_words, .inl (cL, 4, .inr (.inl v_addend_words)))]) ([.ref a_this, .int q1, .int q2, .int q3] : List Value).toArray s 0 0 A) (F0 m 0 ls []) by rw [eH, eL] at hG; exact hG
  refine lv_iload_n hx hb dX7_becomeSums_0 rfl (lv_at hl 1 rfl) ?_
  obtain ⟨u1, hu1, hf⟩ := bd_some hf
  refine caSI (rest := []) (As := [.int q1]) (wr := [(a_this, .inr (7, [.ref a_slots, .ref a_script, .ref a_history, .ref a_sums, .ref a_addend, .ref a_grids, .ref a_pairings, .ref a_swellings, .ref a_smallestSets])), (a_slots, .inl (cL, 4, .inr (.inl g_slots))), (a_history, .inr (1, [.ref a_history_changed, .ref a_history_before, .int g_history_size])), (a_history_changed, .inl (cI, 6, .inl g_history_changed)), (a_history_before, .inl (cL, 6, .inr (.inl g_history_before))), (a_sums, .inr (6, [.ref a_sums_words])), (a_sums_words, .inl (cL, 4, .inr (.inl g_sums_words))), (a_addend, .inr (6, [.ref a_addend_words])), (a_addend_words, .inl (cL, 4, .inr (.inl g_addend_words)))]) (wo := [(a_this, .inr (7, [.ref a_slots, .ref a_script, .ref a_history, .ref a_sums, .ref a_addend, .ref a_grids, .ref a_pairings, .ref a_swellings, .ref a_smallestSets])), (a_slots, .inl (cL, 4, .inr (.inl g_slots))), (a_history, .inr (1, [.ref a_history_changed, .ref a_history_before, .int g_history_size])), (a_history_changed, .inl (cI, 6, .inl g_history_changed)), (a_history_before, .inl (cL, 6, .inr (.inl g_history_before))), (a_sums, .inr (6, [.ref a_sums_words])), (a_sums_words, .inl (cL, 4, .inr (.inl g_sums_words))), (a_addend, .inr (6, [.ref a_addend_words])), (a_addend_words, .inl (cL, 4, .inr (.inl g_addend_words)))]) ⟨hx, hb, hml, hown, hts⟩ hN hP hD hS hA (cX7_isSlot_ct l D cI cL cC cZ q1 u1 hu1) z1 [] [0, 1, 2, 3, 4, 5, 6, 7, 8] [0, 1, 2, 3, 4, 5, 6, 7, 8] rfl (by decide) rfl (by decide) (by decide) rfl (by decide) rfl hl.1 rfl (Nat.le_of_ble_eq_true rfl) dX7_becomeSums_1 ⟨Nat.zero_le _, Nat.zero_le _⟩ (fun H locs hP hD hS => ?_)
  refine lv_if_eq (tgt := 21) hx hb dX7_becomeSums_4 (by decide) (fun c2 => ?_) (fun c2 => ?_)
  · have hf := br_pos c2 hf
    refine lv_iconst (v := -1) hx hb dX7_becomeSums_21 (by decide) ?_
    have hE : ((-1 : Int32), g_slots, g_history_size, g_history_changed, g_history_before, g_sums_words, g_addend_words) = (r0, v_slots, v_history_size, v_history_changed, v_history_before, v_sums_words, v_addend_words) := Option.some.inj hf
    simp only [Prod.mk.injEq] at hE
    obtain ⟨rfl, rfl, rfl, rfl, rfl, rfl, rfl⟩ := hE
    exact rtI hx hb hr hlk hP hD hS dX7_becomeSums_22
  · have hf := br_neg c2 hf
    refine lv_iload_n hx hb dX7_becomeSums_7 rfl (lv_at hl 2 rfl) ?_
    obtain ⟨u3, hu3, hf⟩ := bd_some hf
    refine caSI (rest := []) (As := [.int q2]) (wr := [(a_this, .inr (7, [.ref a_slots, .ref a_script, .ref a_history, .ref a_sums, .ref a_addend, .ref a_grids, .ref a_pairings, .ref a_swellings, .ref a_smallestSets])), (a_slots, .inl (cL, 4, .inr (.inl g_slots))), (a_history, .inr (1, [.ref a_history_changed, .ref a_history_before, .int g_history_size])), (a_history_changed, .inl (cI, 6, .inl g_history_changed)), (a_history_before, .inl (cL, 6, .inr (.inl g_history_before))), (a_sums, .inr (6, [.ref a_sums_words])), (a_sums_words, .inl (cL, 4, .inr (.inl g_sums_words))), (a_addend, .inr (6, [.ref a_addend_words])), (a_addend_words, .inl (cL, 4, .inr (.inl g_addend_words)))]) (wo := [(a_this, .inr (7, [.ref a_slots, .ref a_script, .ref a_history, .ref a_sums, .ref a_addend, .ref a_grids, .ref a_pairings, .ref a_swellings, .ref a_smallestSets])), (a_slots, .inl (cL, 4, .inr (.inl g_slots))), (a_history, .inr (1, [.ref a_history_changed, .ref a_history_before, .int g_history_size])), (a_history_changed, .inl (cI, 6, .inl g_history_changed)), (a_history_before, .inl (cL, 6, .inr (.inl g_history_before))), (a_sums, .inr (6, [.ref a_sums_words])), (a_sums_words, .inl (cL, 4, .inr (.inl g_sums_words))), (a_addend, .inr (6, [.ref a_addend_words])), (a_addend_words, .inl (cL, 4, .inr (.inl g_addend_words)))]) ⟨hx, hb, hml, hown, hts⟩ hN hP hD hS hA (cX7_isSlot_ct l D cI cL cC cZ q2 u3 hu3) z1 [] [0, 1, 2, 3, 4, 5, 6, 7, 8] [0, 1, 2, 3, 4, 5, 6, 7, 8] rfl (by decide) rfl (by decide) (by decide) rfl (by decide) rfl hl.1 rfl (Nat.le_of_ble_eq_true rfl) dX7_becomeSums_8 ⟨Nat.zero_le _, Nat.zero_le _⟩ (fun H locs hP hD hS => ?_)
    refine lv_if_eq (tgt := 21) hx hb dX7_becomeSums_11 (by decide) (fun c4 => ?_) (fun c4 => ?_)
    · have hf := br_pos c4 hf
      refine lv_iconst (v := -1) hx hb dX7_becomeSums_21 (by decide) ?_
      have hE : ((-1 : Int32), g_slots, g_history_size, g_history_changed, g_history_before, g_sums_words, g_addend_words) = (r0, v_slots, v_history_size, v_history_changed, v_history_before, v_sums_words, v_addend_words) := Option.some.inj hf
      simp only [Prod.mk.injEq] at hE
      obtain ⟨rfl, rfl, rfl, rfl, rfl, rfl, rfl⟩ := hE
      exact rtI hx hb hr hlk hP hD hS dX7_becomeSums_22
    · have hf := br_neg c4 hf
      refine lv_iload_n hx hb dX7_becomeSums_14 rfl (lv_at hl 3 rfl) ?_
      obtain ⟨u5, hu5, hf⟩ := bd_some hf
      refine caSI (rest := []) (As := [.int q3]) (wr := [(a_this, .inr (7, [.ref a_slots, .ref a_script, .ref a_history, .ref a_sums, .ref a_addend, .ref a_grids, .ref a_pairings, .ref a_swellings, .ref a_smallestSets])), (a_slots, .inl (cL, 4, .inr (.inl g_slots))), (a_history, .inr (1, [.ref a_history_changed, .ref a_history_before, .int g_history_size])), (a_history_changed, .inl (cI, 6, .inl g_history_changed)), (a_history_before, .inl (cL, 6, .inr (.inl g_history_before))), (a_sums, .inr (6, [.ref a_sums_words])), (a_sums_words, .inl (cL, 4, .inr (.inl g_sums_words))), (a_addend, .inr (6, [.ref a_addend_words])), (a_addend_words, .inl (cL, 4, .inr (.inl g_addend_words)))]) (wo := [(a_this, .inr (7, [.ref a_slots, .ref a_script, .ref a_history, .ref a_sums, .ref a_addend, .ref a_grids, .ref a_pairings, .ref a_swellings, .ref a_smallestSets])), (a_slots, .inl (cL, 4, .inr (.inl g_slots))), (a_history, .inr (1, [.ref a_history_changed, .ref a_history_before, .int g_history_size])), (a_history_changed, .inl (cI, 6, .inl g_history_changed)), (a_history_before, .inl (cL, 6, .inr (.inl g_history_before))), (a_sums, .inr (6, [.ref a_sums_words])), (a_sums_words, .inl (cL, 4, .inr (.inl g_sums_words))), (a_addend, .inr (6, [.ref a_addend_words])), (a_addend_words, .inl (cL, 4, .inr (.inl g_addend_words)))]) ⟨hx, hb, hml, hown, hts⟩ hN hP hD hS hA (cX7_isSlot_ct l D cI cL cC cZ q3 u5 hu5) z1 [] [0, 1, 2, 3, 4, 5, 6, 7, 8] [0, 1, 2, 3, 4, 5, 6, 7, 8] rfl (by decide) rfl (by decide) (by decide) rfl (by decide) rfl hl.1 rfl (Nat.le_of_ble_eq_true rfl) dX7_becomeSums_15 ⟨Nat.zero_le _, Nat.zero_le _⟩ (fun H locs hP hD hS => ?_)
      refine lv_if_ne (tgt := 23) hx hb dX7_becomeSums_18 (by decide) (fun c6 => ?_) (fun c6 => ?_)
      · have hf := br_neg c6 hf
        refine lv_aload_n hx hb dX7_becomeSums_23 rfl (lv_at hl 0 rfl) ?_
        refine lv_aload_n hx hb dX7_becomeSums_24 rfl (lv_at hl 0 rfl) ?_
        refine va_get (D := D) (ci := 7) (v := .ref a_slots) (C := RX7) (T := TX7) (N := 9) hx hb hts z2 hown hN.1 hP 0 rfl rfl 0 (by decide) z3 (fun _ h9 => h9) rfl dX7_becomeSums_25 ?_
        refine lv_iload_n hx hb dX7_becomeSums_28 rfl (lv_at hl 2 rfl) ?_
        obtain ⟨c7, hf⟩ := gd_some hf
        refine va_lald hx hb hN.1 hP 1 1 rfl rfl (ix_in c7) dX7_becomeSums_29 ?_
        refine lv_aload_n hx hb dX7_becomeSums_30 rfl (lv_at hl 0 rfl) ?_
        refine va_get (D := D) (ci := 7) (v := .ref a_slots) (C := RX7) (T := TX7) (N := 9) hx hb hts z2 hown hN.1 hP 0 rfl rfl 0 (by decide) z3 (fun _ h9 => h9) rfl dX7_becomeSums_31 ?_
        refine lv_iload_n hx hb dX7_becomeSums_34 rfl (lv_at hl 3 rfl) ?_
        obtain ⟨c8, hf⟩ := gd_some hf
        refine va_lald hx hb hN.1 hP 1 1 rfl rfl (ix_in c8) dX7_becomeSums_35 ?_
        obtain ⟨u9, hu9, hf⟩ := bd_some hf
        refine caVV (rest := []) (As := [.long (g_slots q2.toNatClampNeg), .long (g_slots q3.toNatClampNeg)]) (wr := [(a_slots, .inl (cL, 4, .inr (.inl g_slots))), (a_history, .inr (1, [.ref a_history_changed, .ref a_history_before, .int g_history_size])), (a_history_changed, .inl (cI, 6, .inl g_history_changed)), (a_history_before, .inl (cL, 6, .inr (.inl g_history_before)))]) (wo := [(a_this, .inr (7, [.ref a_slots, .ref a_script, .ref a_history, .ref a_sums, .ref a_addend, .ref a_grids, .ref a_pairings, .ref a_swellings, .ref a_smallestSets])), (a_slots, .inl (cL, 4, .inr (.inl g_slots))), (a_history, .inr (1, [.ref a_history_changed, .ref a_history_before, .int g_history_size])), (a_history_changed, .inl (cI, 6, .inl g_history_changed)), (a_history_before, .inl (cL, 6, .inr (.inl g_history_before))), (a_sums, .inr (6, [.ref a_sums_words])), (a_sums_words, .inl (cL, 4, .inr (.inl u9.1))), (a_addend, .inr (6, [.ref a_addend_words])), (a_addend_words, .inl (cL, 4, .inr (.inl u9.2)))]) ⟨hx, hb, hml, hown, hts⟩ hN hP hD hS hA (cX7_findSums_ct l D cI cL cC cZ a_this a_slots a_script a_history a_sums a_addend a_grids a_pairings a_swellings a_smallestSets a_sums_words a_addend_words g_sums_words g_addend_words (g_slots q2.toNatClampNeg) (g_slots q3.toNatClampNeg) u9.1 u9.2 hu9) z4 0 7 rfl rfl [0, 5, 6, 7, 8] [1, 2, 3, 4] [4, 0, 1, 2, 3, 5, 6, 7, 8] rfl (by decide) rfl (by decide) (by decide) rfl (by decide) rfl hl.1 rfl (Nat.le_of_ble_eq_true rfl) dX7_becomeSums_36 ⟨Nat.zero_le _, Nat.zero_le _⟩ (fun H locs hP hD hS => ?_)
        refine lv_aload_n hx hb dX7_becomeSums_39 rfl (lv_at hl 0 rfl) ?_
        refine va_get (D := D) (ci := 7) (v := .ref a_sums) (C := RX7) (T := TX7) (N := 9) hx hb hts z2 hown hN.1 hP 0 rfl rfl 3 (by decide) z5 (fun _ h9 => h9) rfl dX7_becomeSums_40 ?_
        obtain ⟨u10, hu10, hf⟩ := bd_some hf
        refine caVI (rest := []) (As := []) (wr := [(a_this, .inr (7, [.ref a_slots, .ref a_script, .ref a_history, .ref a_sums, .ref a_addend, .ref a_grids, .ref a_pairings, .ref a_swellings, .ref a_smallestSets])), (a_slots, .inl (cL, 4, .inr (.inl g_slots))), (a_history, .inr (1, [.ref a_history_changed, .ref a_history_before, .int g_history_size])), (a_history_changed, .inl (cI, 6, .inl g_history_changed)), (a_history_before, .inl (cL, 6, .inr (.inl g_history_before))), (a_addend, .inr (6, [.ref a_addend_words])), (a_addend_words, .inl (cL, 4, .inr (.inl u9.2)))]) (wo := [(a_this, .inr (7, [.ref a_slots, .ref a_script, .ref a_history, .ref a_sums, .ref a_addend, .ref a_grids, .ref a_pairings, .ref a_swellings, .ref a_smallestSets])), (a_slots, .inl (cL, 4, .inr (.inl g_slots))), (a_history, .inr (1, [.ref a_history_changed, .ref a_history_before, .int g_history_size])), (a_history_changed, .inl (cI, 6, .inl g_history_changed)), (a_history_before, .inl (cL, 6, .inr (.inl g_history_before))), (a_sums, .inr (6, [.ref a_sums_words])), (a_sums_words, .inl (cL, 4, .inr (.inl u9.1))), (a_addend, .inr (6, [.ref a_addend_words])), (a_addend_words, .inl (cL, 4, .inr (.inl u9.2)))]) ⟨hx, hb, hml, hown, hts⟩ hN hP hD hS hA (cX6_greatest_ct l D cI cL cC cZ a_sums a_sums_words u9.1 u10 hu10) z6 5 6 rfl rfl [5, 6] [0, 1, 2, 3, 4, 7, 8] [0, 1, 2, 3, 4, 7, 8, 5, 6] rfl (by decide) rfl (by decide) (by decide) rfl (by decide) rfl hl.1 rfl (Nat.le_of_ble_eq_true rfl) dX7_becomeSums_43 ⟨Nat.zero_le _, Nat.zero_le _⟩ (fun H locs hP hD hS => ?_)
        refine lv_bipush (v := 40) hx hb dX7_becomeSums_46 (by decide) ?_
        refine lv_icmp_le (tgt := 56) hx hb dX7_becomeSums_48 (by decide) (fun c11 => ?_) (fun c11 => ?_)
        · have hf := br_pos c11 hf
          refine lv_aload_n hx hb dX7_becomeSums_56 rfl (lv_at hl 0 rfl) ?_
          refine lv_iload_n hx hb dX7_becomeSums_57 rfl (lv_at hl 1 rfl) ?_
          refine lv_aload_n hx hb dX7_becomeSums_58 rfl (lv_at hl 0 rfl) ?_
          refine va_get (D := D) (ci := 7) (v := .ref a_sums) (C := RX7) (T := TX7) (N := 9) hx hb hts z2 hown hN.1 hP 0 rfl rfl 3 (by decide) z5 (fun _ h9 => h9) rfl dX7_becomeSums_59 ?_
          obtain ⟨u12, hu12, hf⟩ := bd_some hf
          refine caVL (rest := [.int q1, .ref a_this]) (As := []) (wr := [(a_this, .inr (7, [.ref a_slots, .ref a_script, .ref a_history, .ref a_sums, .ref a_addend, .ref a_grids, .ref a_pairings, .ref a_swellings, .ref a_smallestSets])), (a_slots, .inl (cL, 4, .inr (.inl g_slots))), (a_history, .inr (1, [.ref a_history_changed, .ref a_history_before, .int g_history_size])), (a_history_changed, .inl (cI, 6, .inl g_history_changed)), (a_history_before, .inl (cL, 6, .inr (.inl g_history_before))), (a_addend, .inr (6, [.ref a_addend_words])), (a_addend_words, .inl (cL, 4, .inr (.inl u9.2)))]) (wo := [(a_this, .inr (7, [.ref a_slots, .ref a_script, .ref a_history, .ref a_sums, .ref a_addend, .ref a_grids, .ref a_pairings, .ref a_swellings, .ref a_smallestSets])), (a_slots, .inl (cL, 4, .inr (.inl g_slots))), (a_history, .inr (1, [.ref a_history_changed, .ref a_history_before, .int g_history_size])), (a_history_changed, .inl (cI, 6, .inl g_history_changed)), (a_history_before, .inl (cL, 6, .inr (.inl g_history_before))), (a_sums, .inr (6, [.ref a_sums_words])), (a_sums_words, .inl (cL, 4, .inr (.inl u9.1))), (a_addend, .inr (6, [.ref a_addend_words])), (a_addend_words, .inl (cL, 4, .inr (.inl u9.2)))]) ⟨hx, hb, hml, hown, hts⟩ hN hP hD hS hA (cX6_lowest64_ct l D cI cL cC cZ a_sums a_sums_words u9.1 u12 hu12) z7 5 6 rfl rfl [5, 6] [0, 1, 2, 3, 4, 7, 8] [0, 1, 2, 3, 4, 7, 8, 5, 6] rfl (by decide) rfl (by decide) (by decide) rfl (by decide) rfl hl.1 rfl (Nat.le_of_ble_eq_true rfl) dX7_becomeSums_62 ⟨Nat.zero_le _, Nat.zero_le _⟩ (fun H locs hP hD hS => ?_)
          obtain ⟨u13, hu13, hf⟩ := bd_some hf
          refine caVI (rest := []) (As := [.int q1, .long u12]) (wr := [(a_sums, .inr (6, [.ref a_sums_words])), (a_sums_words, .inl (cL, 4, .inr (.inl u9.1))), (a_addend, .inr (6, [.ref a_addend_words])), (a_addend_words, .inl (cL, 4, .inr (.inl u9.2)))]) (wo := [(a_this, .inr (7, [.ref a_slots, .ref a_script, .ref a_history, .ref a_sums, .ref a_addend, .ref a_grids, .ref a_pairings, .ref a_swellings, .ref a_smallestSets])), (a_slots, .inl (cL, 4, .inr (.inl u13.2.1))), (a_history, .inr (1, [.ref a_history_changed, .ref a_history_before, .int u13.2.2.1])), (a_history_changed, .inl (cI, 6, .inl u13.2.2.2.1)), (a_history_before, .inl (cL, 6, .inr (.inl u13.2.2.2.2))), (a_sums, .inr (6, [.ref a_sums_words])), (a_sums_words, .inl (cL, 4, .inr (.inl u9.1))), (a_addend, .inr (6, [.ref a_addend_words])), (a_addend_words, .inl (cL, 4, .inr (.inl u9.2)))]) ⟨hx, hb, hml, hown, hts⟩ hN hP hD hS hA (cX7_change_ct l D cI cL cC cZ a_this a_slots a_script a_history a_sums a_addend a_grids a_pairings a_swellings a_smallestSets a_history_changed a_history_before g_slots g_history_size g_history_changed g_history_before q1 u12 u13.1 u13.2.1 u13.2.2.1 u13.2.2.2.1 u13.2.2.2.2 hu13) z8 0 7 rfl rfl [0, 1, 2, 3, 4] [5, 6, 7, 8] [4, 5, 6, 7, 8, 0, 1, 2, 3] rfl (by decide) rfl (by decide) (by decide) rfl (by decide) rfl hl.1 rfl (Nat.le_of_ble_eq_true rfl) dX7_becomeSums_65 ⟨Nat.zero_le _, Nat.zero_le _⟩ (fun H locs hP hD hS => ?_)
          have hE : (u13.1, u13.2.1, u13.2.2.1, u13.2.2.2.1, u13.2.2.2.2, u9.1, u9.2) = (r0, v_slots, v_history_size, v_history_changed, v_history_before, v_sums_words, v_addend_words) := Option.some.inj hf
          simp only [Prod.mk.injEq] at hE
          obtain ⟨rfl, rfl, rfl, rfl, rfl, rfl, rfl⟩ := hE
          exact rtI hx hb hr hlk hP hD hS dX7_becomeSums_68
        · have hf := br_neg c11 hf
          refine lv_bipush (v := -2) hx hb dX7_becomeSums_51 (by decide) ?_
          refine lv_goto (tgt := 68) hx hb dX7_becomeSums_53 (by decide) ?_
          have hE : ((-2 : Int32), g_slots, g_history_size, g_history_changed, g_history_before, u9.1, u9.2) = (r0, v_slots, v_history_size, v_history_changed, v_history_before, v_sums_words, v_addend_words) := Option.some.inj hf
          simp only [Prod.mk.injEq] at hE
          obtain ⟨rfl, rfl, rfl, rfl, rfl, rfl, rfl⟩ := hE
          exact rtI hx hb hr hlk hP hD hS dX7_becomeSums_68
      · have hf := br_pos c6 hf
        refine lv_iconst (v := -1) hx hb dX7_becomeSums_21 (by decide) ?_
        have hE : ((-1 : Int32), g_slots, g_history_size, g_history_changed, g_history_before, g_sums_words, g_addend_words) = (r0, v_slots, v_history_size, v_history_changed, v_history_before, v_sums_words, v_addend_words) := Option.some.inj hf
        simp only [Prod.mk.injEq] at hE
        obtain ⟨rfl, rfl, rfl, rfl, rfl, rfl, rfl⟩ := hE
        exact rtI hx hb hr hlk hP hD hS dX7_becomeSums_22
abbrev rmX7_move : Room := { frames := 3, cells := 0, slots := 0, locals := 110 }
noncomputable def bX7_move_97 (x1 : Int32) (x2 : Int32) (x3 : Int32) (x4 : Int32) (x5 : Int64) (x7 : Int32) (g_slots : Nat → Int64) (g_history_size : Int32) (g_history_changed : Nat → Int32) (g_history_before : Nat → Int64) : Option ((Int64 × Int32) ⊕ (Int32 × (Nat → Int64) × Int32 × (Nat → Int32) × (Nat → Int64))) := lt_ (x7 + (1 : Int32)) (fun y1 => some (Sum.inl ((x5, y1))))
noncomputable def bX7_move_47 (x1 : Int32) (x2 : Int32) (x3 : Int32) (x4 : Int32) (g_slots : Nat → Int64) (g_history_size : Int32) (g_history_changed : Nat → Int32) (g_history_before : Nat → Int64) (x5 : Int64) (x7 : Int32) : Option ((Int64 × Int32) ⊕ (Int32 × (Nat → Int64) × Int32 × (Nat → Int32) × (Nat → Int64))) := br ((40 : Int32) < x7) (bd (fX7_change x1 x5 g_slots g_history_size g_history_changed g_history_before) (fun u3 => some (Sum.inr ((u3.1, u3.2.1, u3.2.2.1, u3.2.2.2.1, u3.2.2.2.2))))) (gd (¬ x2 < 0 ∧ x2.toNatClampNeg < 4) (bd (fX7_has (g_slots x2.toNatClampNeg) x7) (fun u5 => br (u5 = 0) (bX7_move_97 x1 x2 x3 x4 x5 x7 g_slots g_history_size g_history_changed g_history_before) (lt_ ((x3 * x7) + x4) (fun y7 => bd (fX7_isNumber y7) (fun u8 => br (u8 = 0) (some (Sum.inr (((-2 : Int32), g_slots, g_history_size, g_history_changed, g_history_before)))) (lt_ (x5 ||| ((1 : Int64) <<< (y7.toInt64 &&& 63))) (fun y10 => bX7_move_97 x1 x2 x3 x4 y10 x7 g_slots g_history_size g_history_changed g_history_before))))))))
noncomputable def sX7_move_47 (x1 : Int32) (x2 : Int32) (x3 : Int32) (x4 : Int32) (g_slots : Nat → Int64) (g_history_size : Int32) (g_history_changed : Nat → Int32) (g_history_before : Nat → Int64) : (Int64 × Int32) → Option ((Int64 × Int32) ⊕ (Int32 × (Nat → Int64) × Int32 × (Nat → Int32) × (Nat → Int64))) := fun q => bX7_move_47 x1 x2 x3 x4 g_slots g_history_size g_history_changed g_history_before q.1 q.2
noncomputable def fX7_move (q1 : Int32) (q2 : Int32) (q3 : Int32) (q4 : Int32) (g_slots : Nat → Int64) (g_history_size : Int32) (g_history_changed : Nat → Int32) (g_history_before : Nat → Int64) : Option (Int32 × (Nat → Int64) × Int32 × (Nat → Int32) × (Nat → Int64)) := bd (fX7_isSlot q1) (fun u11 => br (u11 = 0) (some (((-1 : Int32), g_slots, g_history_size, g_history_changed, g_history_before))) (bd (fX7_isSlot q2) (fun u13 => br (u13 = 0) (some (((-1 : Int32), g_slots, g_history_size, g_history_changed, g_history_before))) (br (q3 < (1 : Int32)) (some (((-1 : Int32), g_slots, g_history_size, g_history_changed, g_history_before))) (br ((9 : Int32) < q3) (some (((-1 : Int32), g_slots, g_history_size, g_history_changed, g_history_before))) (br (q4 < (-40 : Int32)) (some (((-1 : Int32), g_slots, g_history_size, g_history_changed, g_history_before))) (br (q4 ≤ (40 : Int32)) (run (sX7_move_47 q1 q2 q3 q4 g_slots g_history_size g_history_changed g_history_before) (((0 : Int64), (0 : Int32)))) (some (((-1 : Int32), g_slots, g_history_size, g_history_changed, g_history_before))))))))))
set_option maxHeartbeats 4000000 in
set_option maxRecDepth 100000 in
theorem cX7_move_ct (l : Launch) (D : va_G) (cI cL cC cZ : ClassId) (a_this a_slots a_script a_history a_sums a_addend a_grids a_pairings a_swellings a_smallestSets a_history_changed a_history_before : Nat) (g_slots : Nat → Int64) (g_history_size : Int32) (g_history_changed : Nat → Int32) (g_history_before : Nat → Int64) (q1 : Int32) (q2 : Int32) (q3 : Int32) (q4 : Int32) (r0 : Int32) (v_slots : Nat → Int64) (v_history_size : Int32) (v_history_changed : Nat → Int32) (v_history_before : Nat → Int64) (hf : fX7_move q1 q2 q3 q4 g_slots g_history_size g_history_changed g_history_before = some ((r0, v_slots, v_history_size, v_history_changed, v_history_before))) : CtI l yX7_move wsX7_move rmX7_move D (tyz cI cL cC cZ) [.ref a_this, .int q1, .int q2, .int q3, .int q4] [(a_this, .inr (7, [.ref a_slots, .ref a_script, .ref a_history, .ref a_sums, .ref a_addend, .ref a_grids, .ref a_pairings, .ref a_swellings, .ref a_smallestSets])), (a_slots, .inl (cL, 4, .inr (.inl g_slots))), (a_history, .inr (1, [.ref a_history_changed, .ref a_history_before, .int g_history_size])), (a_history_changed, .inl (cI, 6, .inl g_history_changed)), (a_history_before, .inl (cL, 6, .inr (.inl g_history_before)))] [(a_this, .inr (7, [.ref a_slots, .ref a_script, .ref a_history, .ref a_sums, .ref a_addend, .ref a_grids, .ref a_pairings, .ref a_swellings, .ref a_smallestSets])), (a_slots, .inl (cL, 4, .inr (.inl v_slots))), (a_history, .inr (1, [.ref a_history_changed, .ref a_history_before, .int v_history_size])), (a_history_changed, .inl (cI, 6, .inl v_history_changed)), (a_history_before, .inl (cL, 6, .inr (.inl v_history_before)))] r0 := by
  refine CtI.make (cc := cX7_move) (maxL := 9) (ty := .int) (by decide) rfl (Nat.le_of_ble_eq_true rfl) ?_
  intro p e s m below meth c A ls C0 hN hA hP hD hl
  obtain ⟨hx, hb, hr, hml, hown, hts, hlk⟩ := id C0
  have hown : s.vm.findClass RX7 = some m.cls := hown
  have hS : va_S A s.heap s.heap [] := va_S.rf
  have hP : va_P D vwCl [(a_this, .inr (7, [.ref a_slots, .ref a_script, .ref a_history, .ref a_sums, .ref a_addend, .ref a_grids, .ref a_pairings, .ref a_swellings, .ref a_smallestSets])), (a_slots, .inl (cL, 4, .inr (.inl g_slots))), (a_history, .inr (1, [.ref a_history_changed, .ref a_history_before, .int g_history_size])), (a_history_changed, .inl (cI, 6, .inl g_history_changed)), (a_history_before, .inl (cL, 6, .inr (.inl g_history_before)))] s.heap := hP
  have hD : va_D A [(a_this, .inr (7, [.ref a_slots, .ref a_script, .ref a_history, .ref a_sums, .ref a_addend, .ref a_grids, .ref a_pairings, .ref a_swellings, .ref a_smallestSets])), (a_slots, .inl (cL, 4, .inr (.inl g_slots))), (a_history, .inr (1, [.ref a_history_changed, .ref a_history_before, .int g_history_size])), (a_history_changed, .inl (cI, 6, .inl g_history_changed)), (a_history_before, .inl (cL, 6, .inr (.inl g_history_before)))] := hD
  have hl : lv_has ls 9 [(0, .ref a_this), (1, .int q1), (2, .int q2), (3, .int q3), (4, .int q4)] := hl
  have z1 := cwV (R := rmX7_move) (rm := rmX7_change) (mc := 0) (ms := 0) 2 hts gX7_move_X7_change rfl rfl rfl (by decide +kernel) ⟨Nat.le_of_ble_eq_true rfl, Nat.le_of_ble_eq_true rfl⟩
  have z2 : ∀ w ∈ u_ws RX7 TX7 9, w ∈ wsX7_move := by decide +kernel
  have z3 := hts (.fieldLink RX7 9 "LittleSums" "slots" "[J") (by decide +kernel)
  have z4 := va_cwS (R := rmX7_move) (rm := rmX7_has) (mc := 0) (ms := 0) 2 hts gX7_move_X7_has rfl rfl rfl (by decide +kernel) ⟨Nat.le_of_ble_eq_true rfl, Nat.le_of_ble_eq_true rfl⟩
  have z5 := va_cwS (R := rmX7_move) (rm := rmX7_isNumber) (mc := 0) (ms := 0) 1 hts gX7_move_X7_isNumber rfl rfl rfl (by decide +kernel) ⟨Nat.le_of_ble_eq_true rfl, Nat.le_of_ble_eq_true rfl⟩
  have z6 := va_cwS (R := rmX7_move) (rm := rmX7_isSlot) (mc := 0) (ms := 0) 1 hts gX7_move_X7_isSlot rfl rfl rfl (by decide +kernel) ⟨Nat.le_of_ble_eq_true rfl, Nat.le_of_ble_eq_true rfl⟩
  have w47 : ∀ (x1 : Int32) (x2 : Int32) (x3 : Int32) (x4 : Int32) (g_slots : Nat → Int64) (g_history_size : Int32) (g_history_changed : Nat → Int32) (g_history_before : Nat → Int64) (x5 : Int64) (x7 : Int32) (t : Int32 × (Nat → Int64) × Int32 × (Nat → Int32) × (Nat → Int64)) (H : Heap) (locs : List Loc) (ls : Array Slot), run (sX7_move_47 x1 x2 x3 x4 g_slots g_history_size g_history_changed g_history_before) ((x5, x7)) = some t → (fun z => z = (r0, v_slots, v_history_size, v_history_changed, v_history_before)) t → va_P D vwCl [(a_this, .inr (7, [.ref a_slots, .ref a_script, .ref a_history, .ref a_sums, .ref a_addend, .ref a_grids, .ref a_pairings, .ref a_swellings, .ref a_smallestSets])), (a_slots, .inl (cL, 4, .inr (.inl g_slots))), (a_history, .inr (1, [.ref a_history_changed, .ref a_history_before, .int g_history_size])), (a_history_changed, .inl (cI, 6, .inl g_history_changed)), (a_history_before, .inl (cL, 6, .inr (.inl g_history_before)))] H → va_D A [(a_this, .inr (7, [.ref a_slots, .ref a_script, .ref a_history, .ref a_sums, .ref a_addend, .ref a_grids, .ref a_pairings, .ref a_swellings, .ref a_smallestSets])), (a_slots, .inl (cL, 4, .inr (.inl g_slots))), (a_history, .inr (1, [.ref a_history_changed, .ref a_history_before, .int g_history_size])), (a_history_changed, .inl (cI, 6, .inl g_history_changed)), (a_history_before, .inl (cL, 6, .inr (.inl g_history_before)))] → va_S A s.heap H locs → lv_has ls 9 [(0, .ref a_this), (1, .int x1), (2, .int x2), (3, .int x3), (4, .int x4), (5, .long x5), (7, .int x7)] → W p l e rmX7_move s m ([.ref a_this, .int q1, .int q2, .int q3, .int q4] : List Value).toArray below meth c H locs 0 0 (MQ below (cQi D r0 A [(a_this, .inr (7, [.ref a_slots, .ref a_script, .ref a_history, .ref a_sums, .ref a_addend, .ref a_grids, .ref a_pairings, .ref a_swellings, .ref a_smallestSets])), (a_slots, .inl (cL, 4, .inr (.inl v_slots))), (a_history, .inr (1, [.ref a_history_changed, .ref a_history_before, .int v_history_size])), (a_history_changed, .inl (cI, 6, .inl v_history_changed)), (a_history_before, .inl (cL, 6, .inr (.inl v_history_before)))]) ([.ref a_this, .int q1, .int q2, .int q3, .int q4] : List Value).toArray s 0 0 A) (F0 m 47 ls []) := by
    intro x1 x2 x3 x4 g_slots g_history_size g_history_changed g_history_before
    obtain ⟨F47, eF47⟩ : ∃ F : (Int64 × Int32) → Prop, F = fun q => ∀ (H : Heap) (locs : List Loc) (ls : Array Slot), va_P D vwCl [(a_this, .inr (7, [.ref a_slots, .ref a_script, .ref a_history, .ref a_sums, .ref a_addend, .ref a_grids, .ref a_pairings, .ref a_swellings, .ref a_smallestSets])), (a_slots, .inl (cL, 4, .inr (.inl g_slots))), (a_history, .inr (1, [.ref a_history_changed, .ref a_history_before, .int g_history_size])), (a_history_changed, .inl (cI, 6, .inl g_history_changed)), (a_history_before, .inl (cL, 6, .inr (.inl g_history_before)))] H → va_D A [(a_this, .inr (7, [.ref a_slots, .ref a_script, .ref a_history, .ref a_sums, .ref a_addend, .ref a_grids, .ref a_pairings, .ref a_swellings, .ref a_smallestSets])), (a_slots, .inl (cL, 4, .inr (.inl g_slots))), (a_history, .inr (1, [.ref a_history_changed, .ref a_history_before, .int g_history_size])), (a_history_changed, .inl (cI, 6, .inl g_history_changed)), (a_history_before, .inl (cL, 6, .inr (.inl g_history_before)))] → va_S A s.heap H locs → lv_has ls 9 [(0, .ref a_this), (1, .int x1), (2, .int x2), (3, .int x3), (4, .int x4), (5, .long q.1), (7, .int q.2)] → W p l e rmX7_move s m ([.ref a_this, .int q1, .int q2, .int q3, .int q4] : List Value).toArray below meth c H locs 0 0 (MQ below (cQi D r0 A [(a_this, .inr (7, [.ref a_slots, .ref a_script, .ref a_history, .ref a_sums, .ref a_addend, .ref a_grids, .ref a_pairings, .ref a_swellings, .ref a_smallestSets])), (a_slots, .inl (cL, 4, .inr (.inl v_slots))), (a_history, .inr (1, [.ref a_history_changed, .ref a_history_before, .int v_history_size])), (a_history_changed, .inl (cI, 6, .inl v_history_changed)), (a_history_before, .inl (cL, 6, .inr (.inl v_history_before)))]) ([.ref a_this, .int q1, .int q2, .int q3, .int q4] : List Value).toArray s 0 0 A) (F0 m 47 ls []) := ⟨_, rfl⟩
    have key : ∀ (q : Int64 × Int32) (t : Int32 × (Nat → Int64) × Int32 × (Nat → Int32) × (Nat → Int64)), run (sX7_move_47 x1 x2 x3 x4 g_slots g_history_size g_history_changed g_history_before) q = some t → (fun z => z = (r0, v_slots, v_history_size, v_history_changed, v_history_before)) t → F47 q := by
      refine loop_rule (sX7_move_47 x1 x2 x3 x4 g_slots g_history_size g_history_changed g_history_before) F47 (fun z => z = (r0, v_slots, v_history_size, v_history_changed, v_history_before)) ?_
      intro q t hf hF
      have hF : (Sum.elim F47 (fun z => z = (r0, v_slots, v_history_size, v_history_changed, v_history_before))) t := hF
      have w97 : ∀ (x5 : Int64) (x7 : Int32) (t : (Int64 × Int32) ⊕ (Int32 × (Nat → Int64) × Int32 × (Nat → Int32) × (Nat → Int64))) (H : Heap) (locs : List Loc) (ls : Array Slot), bX7_move_97 x1 x2 x3 x4 x5 x7 g_slots g_history_size g_history_changed g_history_before = some t → (Sum.elim F47 (fun z => z = (r0, v_slots, v_history_size, v_history_changed, v_history_before))) t → va_P D vwCl [(a_this, .inr (7, [.ref a_slots, .ref a_script, .ref a_history, .ref a_sums, .ref a_addend, .ref a_grids, .ref a_pairings, .ref a_swellings, .ref a_smallestSets])), (a_slots, .inl (cL, 4, .inr (.inl g_slots))), (a_history, .inr (1, [.ref a_history_changed, .ref a_history_before, .int g_history_size])), (a_history_changed, .inl (cI, 6, .inl g_history_changed)), (a_history_before, .inl (cL, 6, .inr (.inl g_history_before)))] H → va_D A [(a_this, .inr (7, [.ref a_slots, .ref a_script, .ref a_history, .ref a_sums, .ref a_addend, .ref a_grids, .ref a_pairings, .ref a_swellings, .ref a_smallestSets])), (a_slots, .inl (cL, 4, .inr (.inl g_slots))), (a_history, .inr (1, [.ref a_history_changed, .ref a_history_before, .int g_history_size])), (a_history_changed, .inl (cI, 6, .inl g_history_changed)), (a_history_before, .inl (cL, 6, .inr (.inl g_history_before)))] → va_S A s.heap H locs → lv_has ls 9 [(0, .ref a_this), (1, .int x1), (2, .int x2), (3, .int x3), (4, .int x4), (5, .long x5), (7, .int x7)] → W p l e rmX7_move s m ([.ref a_this, .int q1, .int q2, .int q3, .int q4] : List Value).toArray below meth c H locs 0 0 (MQ below (cQi D r0 A [(a_this, .inr (7, [.ref a_slots, .ref a_script, .ref a_history, .ref a_sums, .ref a_addend, .ref a_grids, .ref a_pairings, .ref a_swellings, .ref a_smallestSets])), (a_slots, .inl (cL, 4, .inr (.inl v_slots))), (a_history, .inr (1, [.ref a_history_changed, .ref a_history_before, .int v_history_size])), (a_history_changed, .inl (cI, 6, .inl v_history_changed)), (a_history_before, .inl (cL, 6, .inr (.inl v_history_before)))]) ([.ref a_this, .int q1, .int q2, .int q3, .int q4] : List Value).toArray s 0 0 A) (F0 m 97 ls []) := by
        intro x5 x7 t H locs ls hf hF hP hD hS hl
        unfold bX7_move_97 at hf
        obtain ⟨y1, ey1⟩ : ∃ z : Int32, z = x7 + (1 : Int32) := ⟨_, rfl⟩
        have hf := lt_some hf y1 ey1
        refine lv_iinc (v := y1) (lv' := [(7, .int y1), (0, .ref a_this), (1, .int x1), (2, .int x2), (3, .int x3), (4, .int x4), (5, .long x5)]) hx hb dX7_move_97 hl (k := 6) rfl (by rw [ey1]; rfl) (by decide) rfl (fun ls hl => ?_)
        refine lv_goto (tgt := 47) hx hb dX7_move_100 (by decide) ?_
        cases hf
        exact ((congrFun eF47 _).mp hF) H locs ls hP hD hS (lv_sub hl [1, 2, 3, 4, 5, 6, 0] rfl)
      rw [eF47]
      obtain ⟨x5, x7⟩ := q
      intro H locs ls hP hD hS hl
      have hP : va_P D vwCl [(a_this, .inr (7, [.ref a_slots, .ref a_script, .ref a_history, .ref a_sums, .ref a_addend, .ref a_grids, .ref a_pairings, .ref a_swellings, .ref a_smallestSets])), (a_slots, .inl (cL, 4, .inr (.inl g_slots))), (a_history, .inr (1, [.ref a_history_changed, .ref a_history_before, .int g_history_size])), (a_history_changed, .inl (cI, 6, .inl g_history_changed)), (a_history_before, .inl (cL, 6, .inr (.inl g_history_before)))] H := hP
      have hD : va_D A [(a_this, .inr (7, [.ref a_slots, .ref a_script, .ref a_history, .ref a_sums, .ref a_addend, .ref a_grids, .ref a_pairings, .ref a_swellings, .ref a_smallestSets])), (a_slots, .inl (cL, 4, .inr (.inl g_slots))), (a_history, .inr (1, [.ref a_history_changed, .ref a_history_before, .int g_history_size])), (a_history_changed, .inl (cI, 6, .inl g_history_changed)), (a_history_before, .inl (cL, 6, .inr (.inl g_history_before)))] := hD
      have hl : lv_has ls 9 [(0, .ref a_this), (1, .int x1), (2, .int x2), (3, .int x3), (4, .int x4), (5, .long x5), (7, .int x7)] := hl
      have hf : bX7_move_47 x1 x2 x3 x4 g_slots g_history_size g_history_changed g_history_before x5 x7 = some t := hf
      unfold bX7_move_47 at hf
      refine lv_iload hx hb dX7_move_47 (lv_at hl 6 rfl) ?_
      refine lv_bipush (v := 40) hx hb dX7_move_49 (by decide) ?_
      refine lv_icmp_gt (tgt := 103) hx hb dX7_move_51 (by decide) (fun c2 => ?_) (fun c2 => ?_)
      · have hf := br_pos c2 hf
        refine lv_aload_n hx hb dX7_move_103 rfl (lv_at hl 0 rfl) ?_
        refine lv_iload_n hx hb dX7_move_104 rfl (lv_at hl 1 rfl) ?_
        refine lv_lload hx hb dX7_move_105 (lv_at hl 5 rfl) ?_
        obtain ⟨u3, hu3, hf⟩ := bd_some hf
        refine caVI (rest := []) (As := [.int x1, .long x5]) (wr := []) (wo := [(a_this, .inr (7, [.ref a_slots, .ref a_script, .ref a_history, .ref a_sums, .ref a_addend, .ref a_grids, .ref a_pairings, .ref a_swellings, .ref a_smallestSets])), (a_slots, .inl (cL, 4, .inr (.inl u3.2.1))), (a_history, .inr (1, [.ref a_history_changed, .ref a_history_before, .int u3.2.2.1])), (a_history_changed, .inl (cI, 6, .inl u3.2.2.2.1)), (a_history_before, .inl (cL, 6, .inr (.inl u3.2.2.2.2)))]) ⟨hx, hb, hml, hown, hts⟩ hN hP hD hS hA (cX7_change_ct l D cI cL cC cZ a_this a_slots a_script a_history a_sums a_addend a_grids a_pairings a_swellings a_smallestSets a_history_changed a_history_before g_slots g_history_size g_history_changed g_history_before x1 x5 u3.1 u3.2.1 u3.2.2.1 u3.2.2.2.1 u3.2.2.2.2 hu3) z1 0 7 rfl rfl [0, 1, 2, 3, 4] [] [0, 1, 2, 3, 4] rfl (by decide) rfl (by decide) (by decide) rfl (by decide) rfl hl.1 rfl (Nat.le_of_ble_eq_true rfl) dX7_move_107 ⟨Nat.zero_le _, Nat.zero_le _⟩ (fun H locs hP hD hS => ?_)
        cases hf
        have hE : (u3.1, u3.2.1, u3.2.2.1, u3.2.2.2.1, u3.2.2.2.2) = (r0, v_slots, v_history_size, v_history_changed, v_history_before) := hF
        simp only [Prod.mk.injEq] at hE
        obtain ⟨rfl, rfl, rfl, rfl, rfl⟩ := hE
        exact rtI hx hb hr hlk hP hD hS dX7_move_110
      · have hf := br_neg c2 hf
        refine lv_aload_n hx hb dX7_move_54 rfl (lv_at hl 0 rfl) ?_
        refine va_get (D := D) (ci := 7) (v := .ref a_slots) (C := RX7) (T := TX7) (N := 9) hx hb hts z2 hown hN.1 hP 0 rfl rfl 0 (by decide) z3 (fun _ h9 => h9) rfl dX7_move_55 ?_
        refine lv_iload_n hx hb dX7_move_58 rfl (lv_at hl 2 rfl) ?_
        obtain ⟨c4, hf⟩ := gd_some hf
        refine va_lald hx hb hN.1 hP 1 1 rfl rfl (ix_in c4) dX7_move_59 ?_
        refine lv_iload hx hb dX7_move_60 (lv_at hl 6 rfl) ?_
        obtain ⟨u5, hu5, hf⟩ := bd_some hf
        refine caSI (rest := []) (As := [.long (g_slots x2.toNatClampNeg), .int x7]) (wr := [(a_this, .inr (7, [.ref a_slots, .ref a_script, .ref a_history, .ref a_sums, .ref a_addend, .ref a_grids, .ref a_pairings, .ref a_swellings, .ref a_smallestSets])), (a_slots, .inl (cL, 4, .inr (.inl g_slots))), (a_history, .inr (1, [.ref a_history_changed, .ref a_history_before, .int g_history_size])), (a_history_changed, .inl (cI, 6, .inl g_history_changed)), (a_history_before, .inl (cL, 6, .inr (.inl g_history_before)))]) (wo := [(a_this, .inr (7, [.ref a_slots, .ref a_script, .ref a_history, .ref a_sums, .ref a_addend, .ref a_grids, .ref a_pairings, .ref a_swellings, .ref a_smallestSets])), (a_slots, .inl (cL, 4, .inr (.inl g_slots))), (a_history, .inr (1, [.ref a_history_changed, .ref a_history_before, .int g_history_size])), (a_history_changed, .inl (cI, 6, .inl g_history_changed)), (a_history_before, .inl (cL, 6, .inr (.inl g_history_before)))]) ⟨hx, hb, hml, hown, hts⟩ hN hP hD hS hA (cX7_has_ct l D cI cL cC cZ (g_slots x2.toNatClampNeg) x7 u5 hu5) z4 [] [0, 1, 2, 3, 4] [0, 1, 2, 3, 4] rfl (by decide) rfl (by decide) (by decide) rfl (by decide) rfl hl.1 rfl (Nat.le_of_ble_eq_true rfl) dX7_move_62 ⟨Nat.zero_le _, Nat.zero_le _⟩ (fun H locs hP hD hS => ?_)
        refine lv_if_eq (tgt := 97) hx hb dX7_move_65 (by decide) (fun c6 => ?_) (fun c6 => ?_)
        · have hf := br_pos c6 hf
          exact w97 x5 x7 _ H locs ls hf hF hP hD hS (lv_sub hl [0, 1, 2, 3, 4, 5, 6] rfl)
        · have hf := br_neg c6 hf
          refine lv_iload_n hx hb dX7_move_68 rfl (lv_at hl 3 rfl) ?_
          refine lv_iload hx hb dX7_move_69 (lv_at hl 6 rfl) ?_
          refine lv_imul hx hb dX7_move_71 ?_
          refine lv_iload hx hb dX7_move_72 (lv_at hl 4 rfl) ?_
          refine lv_iadd hx hb dX7_move_74 ?_
          refine lv_topi (fun y7 ey7 => ?_)
          have hf := lt_some hf y7 ey7
          refine lv_istore (lv' := [(8, .int y7), (0, .ref a_this), (1, .int x1), (2, .int x2), (3, .int x3), (4, .int x4), (5, .long x5), (7, .int x7)]) hx hb dX7_move_75 hl (by decide) rfl (fun ls hl => ?_)
          refine lv_iload hx hb dX7_move_77 (lv_at hl 0 rfl) ?_
          obtain ⟨u8, hu8, hf⟩ := bd_some hf
          refine caSI (rest := []) (As := [.int y7]) (wr := [(a_this, .inr (7, [.ref a_slots, .ref a_script, .ref a_history, .ref a_sums, .ref a_addend, .ref a_grids, .ref a_pairings, .ref a_swellings, .ref a_smallestSets])), (a_slots, .inl (cL, 4, .inr (.inl g_slots))), (a_history, .inr (1, [.ref a_history_changed, .ref a_history_before, .int g_history_size])), (a_history_changed, .inl (cI, 6, .inl g_history_changed)), (a_history_before, .inl (cL, 6, .inr (.inl g_history_before)))]) (wo := [(a_this, .inr (7, [.ref a_slots, .ref a_script, .ref a_history, .ref a_sums, .ref a_addend, .ref a_grids, .ref a_pairings, .ref a_swellings, .ref a_smallestSets])), (a_slots, .inl (cL, 4, .inr (.inl g_slots))), (a_history, .inr (1, [.ref a_history_changed, .ref a_history_before, .int g_history_size])), (a_history_changed, .inl (cI, 6, .inl g_history_changed)), (a_history_before, .inl (cL, 6, .inr (.inl g_history_before)))]) ⟨hx, hb, hml, hown, hts⟩ hN hP hD hS hA (cX7_isNumber_ct l D cI cL cC cZ y7 u8 hu8) z5 [] [0, 1, 2, 3, 4] [0, 1, 2, 3, 4] rfl (by decide) rfl (by decide) (by decide) rfl (by decide) rfl hl.1 rfl (Nat.le_of_ble_eq_true rfl) dX7_move_79 ⟨Nat.zero_le _, Nat.zero_le _⟩ (fun H locs hP hD hS => ?_)
          refine lv_if_ne (tgt := 88) hx hb dX7_move_82 (by decide) (fun c9 => ?_) (fun c9 => ?_)
          · have hf := br_neg c9 hf
            refine lv_lload hx hb dX7_move_88 (lv_at hl 6 rfl) ?_
            refine lv_lconst (v := 1) hx hb dX7_move_90 (by decide) ?_
            refine lv_iload hx hb dX7_move_91 (lv_at hl 0 rfl) ?_
            refine lv_lshl hx hb dX7_move_93 rfl ?_
            refine lv_lor hx hb dX7_move_94 ?_
            refine lv_topl (fun y10 ey10 => ?_)
            have hf := lt_some hf y10 ey10
            refine lv_lstore (lv' := [(5, .long y10), (8, .int y7), (0, .ref a_this), (1, .int x1), (2, .int x2), (3, .int x3), (4, .int x4), (7, .int x7)]) hx hb dX7_move_95 hl (by decide) rfl (fun ls hl => ?_)
            exact w97 y10 x7 _ H locs ls hf hF hP hD hS (lv_sub hl [2, 3, 4, 5, 6, 0, 7] rfl)
          · have hf := br_pos c9 hf
            refine lv_bipush (v := -2) hx hb dX7_move_85 (by decide) ?_
            cases hf
            have hE : ((-2 : Int32), g_slots, g_history_size, g_history_changed, g_history_before) = (r0, v_slots, v_history_size, v_history_changed, v_history_before) := hF
            simp only [Prod.mk.injEq] at hE
            obtain ⟨rfl, rfl, rfl, rfl, rfl⟩ := hE
            exact rtI hx hb hr hlk hP hD hS dX7_move_87
    intro x5 x7 t H locs ls hf hF hP hD hS hl
    exact ((congrFun eF47 _).mp (key ((x5, x7)) t hf hF)) H locs ls hP hD hS hl
  unfold fX7_move at hf
  obtain ⟨H, eH⟩ : ∃ z, z = s.heap := ⟨_, rfl⟩
  obtain ⟨locs, eL⟩ : ∃ z : List Loc, z = [] := ⟨_, rfl⟩
  have hP : va_P D vwCl [(a_this, .inr (7, [.ref a_slots, .ref a_script, .ref a_history, .ref a_sums, .ref a_addend, .ref a_grids, .ref a_pairings, .ref a_swellings, .ref a_smallestSets])), (a_slots, .inl (cL, 4, .inr (.inl g_slots))), (a_history, .inr (1, [.ref a_history_changed, .ref a_history_before, .int g_history_size])), (a_history_changed, .inl (cI, 6, .inl g_history_changed)), (a_history_before, .inl (cL, 6, .inr (.inl g_history_before)))] H := by rw [eH]; exact hP
  have hS : va_S A s.heap H locs := by rw [eH, eL]; exact hS
  suffices hG : W p l e rmX7_move s m ([.ref a_this, .int q1, .int q2, .int q3, .int q4] : List Value).toArray below meth c H locs 0 0 (MQ below (cQi D r0 A [(a_this, .inr (7, [.ref a_slots, .ref a_script, .ref a_history, .ref a_sums, .ref a_addend, .ref a_grids, .ref a_pairings, .ref a_swellings, .ref a_smallestSets])), (a_slots, .inl (cL, 4, .inr (.inl v_slots))), (a_history, .inr (1, [.ref a_history_changed, .ref a_history_before, .int v_history_size])), (a_history_changed, .inl (cI, 6, .inl v_history_changed)), (a_history_before, .inl (cL, 6, .inr (.inl v_history_before)))]) ([.ref a_this, .int q1, .int q2, .int q3, .int q4] : List Value).toArray s 0 0 A) (F0 m 0 ls []) by rw [eH, eL] at hG; exact hG
  refine lv_iload_n hx hb dX7_move_0 rfl (lv_at hl 1 rfl) ?_
  obtain ⟨u11, hu11, hf⟩ := bd_some hf
  refine caSI (rest := []) (As := [.int q1]) (wr := [(a_this, .inr (7, [.ref a_slots, .ref a_script, .ref a_history, .ref a_sums, .ref a_addend, .ref a_grids, .ref a_pairings, .ref a_swellings, .ref a_smallestSets])), (a_slots, .inl (cL, 4, .inr (.inl g_slots))), (a_history, .inr (1, [.ref a_history_changed, .ref a_history_before, .int g_history_size])), (a_history_changed, .inl (cI, 6, .inl g_history_changed)), (a_history_before, .inl (cL, 6, .inr (.inl g_history_before)))]) (wo := [(a_this, .inr (7, [.ref a_slots, .ref a_script, .ref a_history, .ref a_sums, .ref a_addend, .ref a_grids, .ref a_pairings, .ref a_swellings, .ref a_smallestSets])), (a_slots, .inl (cL, 4, .inr (.inl g_slots))), (a_history, .inr (1, [.ref a_history_changed, .ref a_history_before, .int g_history_size])), (a_history_changed, .inl (cI, 6, .inl g_history_changed)), (a_history_before, .inl (cL, 6, .inr (.inl g_history_before)))]) ⟨hx, hb, hml, hown, hts⟩ hN hP hD hS hA (cX7_isSlot_ct l D cI cL cC cZ q1 u11 hu11) z6 [] [0, 1, 2, 3, 4] [0, 1, 2, 3, 4] rfl (by decide) rfl (by decide) (by decide) rfl (by decide) rfl hl.1 rfl (Nat.le_of_ble_eq_true rfl) dX7_move_1 ⟨Nat.zero_le _, Nat.zero_le _⟩ (fun H locs hP hD hS => ?_)
  refine lv_if_eq (tgt := 39) hx hb dX7_move_4 (by decide) (fun c12 => ?_) (fun c12 => ?_)
  · have hf := br_pos c12 hf
    refine lv_iconst (v := -1) hx hb dX7_move_39 (by decide) ?_
    have hE : ((-1 : Int32), g_slots, g_history_size, g_history_changed, g_history_before) = (r0, v_slots, v_history_size, v_history_changed, v_history_before) := Option.some.inj hf
    simp only [Prod.mk.injEq] at hE
    obtain ⟨rfl, rfl, rfl, rfl, rfl⟩ := hE
    exact rtI hx hb hr hlk hP hD hS dX7_move_40
  · have hf := br_neg c12 hf
    refine lv_iload_n hx hb dX7_move_7 rfl (lv_at hl 2 rfl) ?_
    obtain ⟨u13, hu13, hf⟩ := bd_some hf
    refine caSI (rest := []) (As := [.int q2]) (wr := [(a_this, .inr (7, [.ref a_slots, .ref a_script, .ref a_history, .ref a_sums, .ref a_addend, .ref a_grids, .ref a_pairings, .ref a_swellings, .ref a_smallestSets])), (a_slots, .inl (cL, 4, .inr (.inl g_slots))), (a_history, .inr (1, [.ref a_history_changed, .ref a_history_before, .int g_history_size])), (a_history_changed, .inl (cI, 6, .inl g_history_changed)), (a_history_before, .inl (cL, 6, .inr (.inl g_history_before)))]) (wo := [(a_this, .inr (7, [.ref a_slots, .ref a_script, .ref a_history, .ref a_sums, .ref a_addend, .ref a_grids, .ref a_pairings, .ref a_swellings, .ref a_smallestSets])), (a_slots, .inl (cL, 4, .inr (.inl g_slots))), (a_history, .inr (1, [.ref a_history_changed, .ref a_history_before, .int g_history_size])), (a_history_changed, .inl (cI, 6, .inl g_history_changed)), (a_history_before, .inl (cL, 6, .inr (.inl g_history_before)))]) ⟨hx, hb, hml, hown, hts⟩ hN hP hD hS hA (cX7_isSlot_ct l D cI cL cC cZ q2 u13 hu13) z6 [] [0, 1, 2, 3, 4] [0, 1, 2, 3, 4] rfl (by decide) rfl (by decide) (by decide) rfl (by decide) rfl hl.1 rfl (Nat.le_of_ble_eq_true rfl) dX7_move_8 ⟨Nat.zero_le _, Nat.zero_le _⟩ (fun H locs hP hD hS => ?_)
    refine lv_if_eq (tgt := 39) hx hb dX7_move_11 (by decide) (fun c14 => ?_) (fun c14 => ?_)
    · have hf := br_pos c14 hf
      refine lv_iconst (v := -1) hx hb dX7_move_39 (by decide) ?_
      have hE : ((-1 : Int32), g_slots, g_history_size, g_history_changed, g_history_before) = (r0, v_slots, v_history_size, v_history_changed, v_history_before) := Option.some.inj hf
      simp only [Prod.mk.injEq] at hE
      obtain ⟨rfl, rfl, rfl, rfl, rfl⟩ := hE
      exact rtI hx hb hr hlk hP hD hS dX7_move_40
    · have hf := br_neg c14 hf
      refine lv_iload_n hx hb dX7_move_14 rfl (lv_at hl 3 rfl) ?_
      refine lv_iconst (v := 1) hx hb dX7_move_15 (by decide) ?_
      refine lv_icmp_lt (tgt := 39) hx hb dX7_move_16 (by decide) (fun c15 => ?_) (fun c15 => ?_)
      · have hf := br_pos c15 hf
        refine lv_iconst (v := -1) hx hb dX7_move_39 (by decide) ?_
        have hE : ((-1 : Int32), g_slots, g_history_size, g_history_changed, g_history_before) = (r0, v_slots, v_history_size, v_history_changed, v_history_before) := Option.some.inj hf
        simp only [Prod.mk.injEq] at hE
        obtain ⟨rfl, rfl, rfl, rfl, rfl⟩ := hE
        exact rtI hx hb hr hlk hP hD hS dX7_move_40
      · have hf := br_neg c15 hf
        refine lv_iload_n hx hb dX7_move_19 rfl (lv_at hl 3 rfl) ?_
        refine lv_bipush (v := 9) hx hb dX7_move_20 (by decide) ?_
        refine lv_icmp_gt (tgt := 39) hx hb dX7_move_22 (by decide) (fun c16 => ?_) (fun c16 => ?_)
        · have hf := br_pos c16 hf
          refine lv_iconst (v := -1) hx hb dX7_move_39 (by decide) ?_
          have hE : ((-1 : Int32), g_slots, g_history_size, g_history_changed, g_history_before) = (r0, v_slots, v_history_size, v_history_changed, v_history_before) := Option.some.inj hf
          simp only [Prod.mk.injEq] at hE
          obtain ⟨rfl, rfl, rfl, rfl, rfl⟩ := hE
          exact rtI hx hb hr hlk hP hD hS dX7_move_40
        · have hf := br_neg c16 hf
          refine lv_iload hx hb dX7_move_25 (lv_at hl 4 rfl) ?_
          refine lv_bipush (v := -40) hx hb dX7_move_27 (by decide) ?_
          refine lv_icmp_lt (tgt := 39) hx hb dX7_move_29 (by decide) (fun c17 => ?_) (fun c17 => ?_)
          · have hf := br_pos c17 hf
            refine lv_iconst (v := -1) hx hb dX7_move_39 (by decide) ?_
            have hE : ((-1 : Int32), g_slots, g_history_size, g_history_changed, g_history_before) = (r0, v_slots, v_history_size, v_history_changed, v_history_before) := Option.some.inj hf
            simp only [Prod.mk.injEq] at hE
            obtain ⟨rfl, rfl, rfl, rfl, rfl⟩ := hE
            exact rtI hx hb hr hlk hP hD hS dX7_move_40
          · have hf := br_neg c17 hf
            refine lv_iload hx hb dX7_move_32 (lv_at hl 4 rfl) ?_
            refine lv_bipush (v := 40) hx hb dX7_move_34 (by decide) ?_
            refine lv_icmp_le (tgt := 41) hx hb dX7_move_36 (by decide) (fun c18 => ?_) (fun c18 => ?_)
            · have hf := br_pos c18 hf
              refine lv_lconst (v := 0) hx hb dX7_move_41 (by decide) ?_
              refine lv_lstore (lv' := [(5, .long (0 : Int64)), (0, .ref a_this), (1, .int q1), (2, .int q2), (3, .int q3), (4, .int q4)]) hx hb dX7_move_42 hl (by decide) rfl (fun ls hl => ?_)
              refine lv_iconst (v := 0) hx hb dX7_move_44 (by decide) ?_
              refine lv_istore (lv' := [(7, .int (0 : Int32)), (5, .long (0 : Int64)), (0, .ref a_this), (1, .int q1), (2, .int q2), (3, .int q3), (4, .int q4)]) hx hb dX7_move_45 hl (by decide) rfl (fun ls hl => ?_)
              exact w47 q1 q2 q3 q4 g_slots g_history_size g_history_changed g_history_before (0 : Int64) (0 : Int32) (r0, v_slots, v_history_size, v_history_changed, v_history_before) H locs ls hf rfl hP hD hS (lv_sub hl [2, 3, 4, 5, 6, 1, 0] rfl)
            · have hf := br_neg c18 hf
              refine lv_iconst (v := -1) hx hb dX7_move_39 (by decide) ?_
              have hE : ((-1 : Int32), g_slots, g_history_size, g_history_changed, g_history_before) = (r0, v_slots, v_history_size, v_history_changed, v_history_before) := Option.some.inj hf
              simp only [Prod.mk.injEq] at hE
              obtain ⟨rfl, rfl, rfl, rfl, rfl⟩ := hE
              exact rtI hx hb hr hlk hP hD hS dX7_move_40
abbrev rmX7_canSwell : Room := { frames := 1, cells := 0, slots := 0, locals := 21 }
noncomputable def bX7_canSwell_40 (g_slots : Nat → Int64) : Option (Int32) := gd ((0 : Int32) = 0 ∨ (0 : Int32) = 1) (some ((0 : Int32)))
noncomputable def fX7_canSwell (q1 : Int32) (q2 : Int32) (g_slots : Nat → Int64) : Option (Int32) := gd (¬ q1 < 0 ∧ q1.toNatClampNeg < 4) (br ((lg_cmp (g_slots q1.toNatClampNeg) (0 : Int64)) = 0) (bX7_canSwell_40 g_slots) (gd (¬ q2 < 0 ∧ q2.toNatClampNeg < 4) (br ((lg_cmp (g_slots q2.toNatClampNeg) (0 : Int64)) = 0) (bX7_canSwell_40 g_slots) (gd (¬ q1 < 0 ∧ q1.toNatClampNeg < 4) (bd (fJ13_bitCount_95d88 (g_slots q1.toNatClampNeg)) (fun u7 => br ((12 : Int32) < u7) (bX7_canSwell_40 g_slots) (gd ((1 : Int32) = 0 ∨ (1 : Int32) = 1) (some ((1 : Int32))))))))))
set_option maxHeartbeats 4000000 in
set_option maxRecDepth 100000 in
theorem cX7_canSwell_ct (l : Launch) (D : va_G) (cI cL cC cZ : ClassId) (a_this a_slots a_script a_history a_sums a_addend a_grids a_pairings a_swellings a_smallestSets : Nat) (g_slots : Nat → Int64) (q1 : Int32) (q2 : Int32) (r0 : Int32) (hf : fX7_canSwell q1 q2 g_slots = some r0) : CtI l yX7_canSwell wsX7_canSwell rmX7_canSwell D (tyz cI cL cC cZ) [.ref a_this, .int q1, .int q2] [(a_this, .inr (7, [.ref a_slots, .ref a_script, .ref a_history, .ref a_sums, .ref a_addend, .ref a_grids, .ref a_pairings, .ref a_swellings, .ref a_smallestSets])), (a_slots, .inl (cL, 4, .inr (.inl g_slots)))] [(a_this, .inr (7, [.ref a_slots, .ref a_script, .ref a_history, .ref a_sums, .ref a_addend, .ref a_grids, .ref a_pairings, .ref a_swellings, .ref a_smallestSets])), (a_slots, .inl (cL, 4, .inr (.inl g_slots)))] r0 := by
  refine CtI.make (cc := cX7_canSwell) (maxL := 3) (ty := .boolean) (by decide) rfl (Nat.le_of_ble_eq_true rfl) ?_
  intro p e s m below meth c A ls C0 hN hA hP hD hl
  obtain ⟨hx, hb, hr, hml, hown, hts, hlk⟩ := id C0
  have hown : s.vm.findClass RX7 = some m.cls := hown
  have hS : va_S A s.heap s.heap [] := va_S.rf
  have hP : va_P D vwCl [(a_this, .inr (7, [.ref a_slots, .ref a_script, .ref a_history, .ref a_sums, .ref a_addend, .ref a_grids, .ref a_pairings, .ref a_swellings, .ref a_smallestSets])), (a_slots, .inl (cL, 4, .inr (.inl g_slots)))] s.heap := hP
  have hD : va_D A [(a_this, .inr (7, [.ref a_slots, .ref a_script, .ref a_history, .ref a_sums, .ref a_addend, .ref a_grids, .ref a_pairings, .ref a_swellings, .ref a_smallestSets])), (a_slots, .inl (cL, 4, .inr (.inl g_slots)))] := hD
  have hl : lv_has ls 3 [(0, .ref a_this), (1, .int q1), (2, .int q2)] := hl
  have z1 : ∀ w ∈ u_ws RX7 TX7 9, w ∈ wsX7_canSwell := by decide +kernel
  have z2 := hts (.fieldLink RX7 9 "LittleSums" "slots" "[J") (by decide +kernel)
  have z3 := va_cwS (R := rmX7_canSwell) (rm := rmJ13_bitCount_95d88) (mc := 0) (ms := 0) 1 hts gX7_canSwell_J13_bitCount_95d88 rfl rfl rfl (by decide +kernel) ⟨Nat.le_of_ble_eq_true rfl, Nat.le_of_ble_eq_true rfl⟩
  have w40 : ∀ (g_slots : Nat → Int64) (H : Heap) (locs : List Loc) (ls : Array Slot), bX7_canSwell_40 g_slots = some r0 → va_P D vwCl [(a_this, .inr (7, [.ref a_slots, .ref a_script, .ref a_history, .ref a_sums, .ref a_addend, .ref a_grids, .ref a_pairings, .ref a_swellings, .ref a_smallestSets])), (a_slots, .inl (cL, 4, .inr (.inl g_slots)))] H → va_D A [(a_this, .inr (7, [.ref a_slots, .ref a_script, .ref a_history, .ref a_sums, .ref a_addend, .ref a_grids, .ref a_pairings, .ref a_swellings, .ref a_smallestSets])), (a_slots, .inl (cL, 4, .inr (.inl g_slots)))] → va_S A s.heap H locs → lv_has ls 3 [] → W p l e rmX7_canSwell s m ([.ref a_this, .int q1, .int q2] : List Value).toArray below meth c H locs 0 0 (MQ below (cQi D r0 A [(a_this, .inr (7, [.ref a_slots, .ref a_script, .ref a_history, .ref a_sums, .ref a_addend, .ref a_grids, .ref a_pairings, .ref a_swellings, .ref a_smallestSets])), (a_slots, .inl (cL, 4, .inr (.inl g_slots)))]) ([.ref a_this, .int q1, .int q2] : List Value).toArray s 0 0 A) (F0 m 40 ls []) := by
    intro g_slots H locs ls hf hP hD hS hl
    unfold bX7_canSwell_40 at hf
    refine lv_iconst (v := 0) hx hb dX7_canSwell_40 (by decide) ?_
    obtain ⟨c1, hf⟩ := gd_some hf
    have hE : (0 : Int32) = r0 := Option.some.inj hf
    subst hE
    exact rtZ hx hb hr hlk c1 hP hD hS dX7_canSwell_41
  unfold fX7_canSwell at hf
  obtain ⟨H, eH⟩ : ∃ z, z = s.heap := ⟨_, rfl⟩
  obtain ⟨locs, eL⟩ : ∃ z : List Loc, z = [] := ⟨_, rfl⟩
  have hP : va_P D vwCl [(a_this, .inr (7, [.ref a_slots, .ref a_script, .ref a_history, .ref a_sums, .ref a_addend, .ref a_grids, .ref a_pairings, .ref a_swellings, .ref a_smallestSets])), (a_slots, .inl (cL, 4, .inr (.inl g_slots)))] H := by rw [eH]; exact hP
  have hS : va_S A s.heap H locs := by rw [eH, eL]; exact hS
  suffices hG : W p l e rmX7_canSwell s m ([.ref a_this, .int q1, .int q2] : List Value).toArray below meth c H locs 0 0 (MQ below (cQi D r0 A [(a_this, .inr (7, [.ref a_slots, .ref a_script, .ref a_history, .ref a_sums, .ref a_addend, .ref a_grids, .ref a_pairings, .ref a_swellings, .ref a_smallestSets])), (a_slots, .inl (cL, 4, .inr (.inl g_slots)))]) ([.ref a_this, .int q1, .int q2] : List Value).toArray s 0 0 A) (F0 m 0 ls []) by rw [eH, eL] at hG; exact hG
  refine lv_aload_n hx hb dX7_canSwell_0 rfl (lv_at hl 0 rfl) ?_
  refine va_get (D := D) (ci := 7) (v := .ref a_slots) (C := RX7) (T := TX7) (N := 9) hx hb hts z1 hown hN.1 hP 0 rfl rfl 0 (by decide) z2 (fun _ h9 => h9) rfl dX7_canSwell_1 ?_
  refine lv_iload_n hx hb dX7_canSwell_4 rfl (lv_at hl 1 rfl) ?_
  obtain ⟨c2, hf⟩ := gd_some hf
  refine va_lald hx hb hN.1 hP 1 1 rfl rfl (ix_in c2) dX7_canSwell_5 ?_
  refine lv_lconst (v := 0) hx hb dX7_canSwell_6 (by decide) ?_
  refine W.lcmp hx hb dX7_canSwell_7 ?_
  refine lv_if_eq (tgt := 40) hx hb dX7_canSwell_8 (by decide) (fun c3 => ?_) (fun c3 => ?_)
  · have hf := br_pos c3 hf
    exact w40 g_slots H locs ls hf hP hD hS (lv_sub hl [] rfl)
  · have hf := br_neg c3 hf
    refine lv_aload_n hx hb dX7_canSwell_11 rfl (lv_at hl 0 rfl) ?_
    refine va_get (D := D) (ci := 7) (v := .ref a_slots) (C := RX7) (T := TX7) (N := 9) hx hb hts z1 hown hN.1 hP 0 rfl rfl 0 (by decide) z2 (fun _ h9 => h9) rfl dX7_canSwell_12 ?_
    refine lv_iload_n hx hb dX7_canSwell_15 rfl (lv_at hl 2 rfl) ?_
    obtain ⟨c4, hf⟩ := gd_some hf
    refine va_lald hx hb hN.1 hP 1 1 rfl rfl (ix_in c4) dX7_canSwell_16 ?_
    refine lv_lconst (v := 0) hx hb dX7_canSwell_17 (by decide) ?_
    refine W.lcmp hx hb dX7_canSwell_18 ?_
    refine lv_if_eq (tgt := 40) hx hb dX7_canSwell_19 (by decide) (fun c5 => ?_) (fun c5 => ?_)
    · have hf := br_pos c5 hf
      exact w40 g_slots H locs ls hf hP hD hS (lv_sub hl [] rfl)
    · have hf := br_neg c5 hf
      refine lv_aload_n hx hb dX7_canSwell_22 rfl (lv_at hl 0 rfl) ?_
      refine va_get (D := D) (ci := 7) (v := .ref a_slots) (C := RX7) (T := TX7) (N := 9) hx hb hts z1 hown hN.1 hP 0 rfl rfl 0 (by decide) z2 (fun _ h9 => h9) rfl dX7_canSwell_23 ?_
      refine lv_iload_n hx hb dX7_canSwell_26 rfl (lv_at hl 1 rfl) ?_
      obtain ⟨c6, hf⟩ := gd_some hf
      refine va_lald hx hb hN.1 hP 1 1 rfl rfl (ix_in c6) dX7_canSwell_27 ?_
      obtain ⟨u7, hu7, hf⟩ := bd_some hf
      refine caSI (rest := []) (As := [.long (g_slots q1.toNatClampNeg)]) (wr := [(a_this, .inr (7, [.ref a_slots, .ref a_script, .ref a_history, .ref a_sums, .ref a_addend, .ref a_grids, .ref a_pairings, .ref a_swellings, .ref a_smallestSets])), (a_slots, .inl (cL, 4, .inr (.inl g_slots)))]) (wo := [(a_this, .inr (7, [.ref a_slots, .ref a_script, .ref a_history, .ref a_sums, .ref a_addend, .ref a_grids, .ref a_pairings, .ref a_swellings, .ref a_smallestSets])), (a_slots, .inl (cL, 4, .inr (.inl g_slots)))]) ⟨hx, hb, hml, hown, hts⟩ hN hP hD hS hA (cJ13_bitCount_95d88_ct l D cI cL cC cZ (g_slots q1.toNatClampNeg) u7 hu7) z3 [] [0, 1] [0, 1] rfl (by decide) rfl (by decide) (by decide) rfl (by decide) rfl hl.1 rfl (Nat.le_of_ble_eq_true rfl) dX7_canSwell_28 ⟨Nat.zero_le _, Nat.zero_le _⟩ (fun H locs hP hD hS => ?_)
      refine lv_bipush (v := 12) hx hb dX7_canSwell_31 (by decide) ?_
      refine lv_icmp_gt (tgt := 40) hx hb dX7_canSwell_33 (by decide) (fun c8 => ?_) (fun c8 => ?_)
      · have hf := br_pos c8 hf
        exact w40 g_slots H locs ls hf hP hD hS (lv_sub hl [] rfl)
      · have hf := br_neg c8 hf
        refine lv_iconst (v := 1) hx hb dX7_canSwell_36 (by decide) ?_
        refine lv_goto (tgt := 41) hx hb dX7_canSwell_37 (by decide) ?_
        obtain ⟨c9, hf⟩ := gd_some hf
        have hE : (1 : Int32) = r0 := Option.some.inj hf
        subst hE
        exact rtZ hx hb hr hlk c9 hP hD hS dX7_canSwell_41
abbrev rmX7_shrink : Room := { frames := 4, cells := 0, slots := 0, locals := 110 }
noncomputable def fX7_shrink (q1 : Int32) (q2 : Int32) (q3 : Int32) (g_slots : Nat → Int64) (g_history_size : Int32) (g_history_changed : Nat → Int32) (g_history_before : Nat → Int64) (g_swellings_whole : Int64) (g_swellings_added : Int64) (g_swellings_bestPart : Int32) (g_swellings_bestSums : Int32) (g_swellings_bestSize : Int32) (g_swellings_numbers : Nat → Int32) (g_swellings_low : Nat → Int64) (g_swellings_high : Nat → Int64) : Option (Int32 × (Nat → Int64) × Int32 × (Nat → Int32) × (Nat → Int64) × Int64 × Int64 × Int32 × Int32 × Int32 × (Nat → Int32) × (Nat → Int64) × (Nat → Int64)) := bd (fX7_isSlot q1) (fun u1 => br (u1 = 0) (some (((-1 : Int32), g_slots, g_history_size, g_history_changed, g_history_before, g_swellings_whole, g_swellings_added, g_swellings_bestPart, g_swellings_bestSums, g_swellings_bestSize, g_swellings_numbers, g_swellings_low, g_swellings_high))) (bd (fX7_isSlot q2) (fun u3 => br (u3 = 0) (some (((-1 : Int32), g_slots, g_history_size, g_history_changed, g_history_before, g_swellings_whole, g_swellings_added, g_swellings_bestPart, g_swellings_bestSums, g_swellings_bestSize, g_swellings_numbers, g_swellings_low, g_swellings_high))) (bd (fX7_isSlot q3) (fun u5 => br (u5 = 0) (some (((-1 : Int32), g_slots, g_history_size, g_history_changed, g_history_before, g_swellings_whole, g_swellings_added, g_swellings_bestPart, g_swellings_bestSums, g_swellings_bestSize, g_swellings_numbers, g_swellings_low, g_swellings_high))) (bd (fX7_canSwell q2 q3 g_slots) (fun u7 => br (u7 = 0) (some (((-2 : Int32), g_slots, g_history_size, g_history_changed, g_history_before, g_swellings_whole, g_swellings_added, g_swellings_bestPart, g_swellings_bestSums, g_swellings_bestSize, g_swellings_numbers, g_swellings_low, g_swellings_high))) (gd (¬ q2 < 0 ∧ q2.toNatClampNeg < 4) (gd (¬ q3 < 0 ∧ q3.toNatClampNeg < 4) (bd (fX5_seek (g_slots q2.toNatClampNeg) (g_slots q3.toNatClampNeg) g_swellings_whole g_swellings_added g_swellings_bestPart g_swellings_bestSums g_swellings_bestSize g_swellings_numbers g_swellings_low g_swellings_high) (fun u11 => bd (fX5_bestSet u11.2.2.1 u11.2.2.2.2.2.1) (fun u12 => bd (fX7_change q1 u12 g_slots g_history_size g_history_changed g_history_before) (fun u13 => some ((u13.1, u13.2.1, u13.2.2.1, u13.2.2.2.1, u13.2.2.2.2, u11.1, u11.2.1, u11.2.2.1, u11.2.2.2.1, u11.2.2.2.2.1, u11.2.2.2.2.2.1, u11.2.2.2.2.2.2.1, u11.2.2.2.2.2.2.2)))))))))))))))
set_option maxHeartbeats 4000000 in
set_option maxRecDepth 100000 in
theorem cX7_shrink_ct (l : Launch) (D : va_G) (cI cL cC cZ : ClassId) (a_this a_slots a_script a_history a_sums a_addend a_grids a_pairings a_swellings a_smallestSets a_history_changed a_history_before a_swellings_numbers a_swellings_low a_swellings_high : Nat) (g_slots : Nat → Int64) (g_history_size : Int32) (g_history_changed : Nat → Int32) (g_history_before : Nat → Int64) (g_swellings_whole : Int64) (g_swellings_added : Int64) (g_swellings_bestPart : Int32) (g_swellings_bestSums : Int32) (g_swellings_bestSize : Int32) (g_swellings_numbers : Nat → Int32) (g_swellings_low : Nat → Int64) (g_swellings_high : Nat → Int64) (q1 : Int32) (q2 : Int32) (q3 : Int32) (r0 : Int32) (v_slots : Nat → Int64) (v_history_size : Int32) (v_history_changed : Nat → Int32) (v_history_before : Nat → Int64) (v_swellings_whole : Int64) (v_swellings_added : Int64) (v_swellings_bestPart : Int32) (v_swellings_bestSums : Int32) (v_swellings_bestSize : Int32) (v_swellings_numbers : Nat → Int32) (v_swellings_low : Nat → Int64) (v_swellings_high : Nat → Int64) (hf : fX7_shrink q1 q2 q3 g_slots g_history_size g_history_changed g_history_before g_swellings_whole g_swellings_added g_swellings_bestPart g_swellings_bestSums g_swellings_bestSize g_swellings_numbers g_swellings_low g_swellings_high = some ((r0, v_slots, v_history_size, v_history_changed, v_history_before, v_swellings_whole, v_swellings_added, v_swellings_bestPart, v_swellings_bestSums, v_swellings_bestSize, v_swellings_numbers, v_swellings_low, v_swellings_high))) : CtI l yX7_shrink wsX7_shrink rmX7_shrink D (tyz cI cL cC cZ) [.ref a_this, .int q1, .int q2, .int q3] [(a_this, .inr (7, [.ref a_slots, .ref a_script, .ref a_history, .ref a_sums, .ref a_addend, .ref a_grids, .ref a_pairings, .ref a_swellings, .ref a_smallestSets])), (a_slots, .inl (cL, 4, .inr (.inl g_slots))), (a_history, .inr (1, [.ref a_history_changed, .ref a_history_before, .int g_history_size])), (a_history_changed, .inl (cI, 6, .inl g_history_changed)), (a_history_before, .inl (cL, 6, .inr (.inl g_history_before))), (a_swellings, .inr (5, [.ref a_swellings_numbers, .ref a_swellings_low, .ref a_swellings_high, .long g_swellings_whole, .long g_swellings_added, .int g_swellings_bestPart, .int g_swellings_bestSums, .int g_swellings_bestSize])), (a_swellings_numbers, .inl (cI, 12, .inl g_swellings_numbers)), (a_swellings_low, .inl (cL, 13, .inr (.inl g_swellings_low))), (a_swellings_high, .inl (cL, 13, .inr (.inl g_swellings_high)))] [(a_this, .inr (7, [.ref a_slots, .ref a_script, .ref a_history, .ref a_sums, .ref a_addend, .ref a_grids, .ref a_pairings, .ref a_swellings, .ref a_smallestSets])), (a_slots, .inl (cL, 4, .inr (.inl v_slots))), (a_history, .inr (1, [.ref a_history_changed, .ref a_history_before, .int v_history_size])), (a_history_changed, .inl (cI, 6, .inl v_history_changed)), (a_history_before, .inl (cL, 6, .inr (.inl v_history_before))), (a_swellings, .inr (5, [.ref a_swellings_numbers, .ref a_swellings_low, .ref a_swellings_high, .long v_swellings_whole, .long v_swellings_added, .int v_swellings_bestPart, .int v_swellings_bestSums, .int v_swellings_bestSize])), (a_swellings_numbers, .inl (cI, 12, .inl v_swellings_numbers)), (a_swellings_low, .inl (cL, 13, .inr (.inl v_swellings_low))), (a_swellings_high, .inl (cL, 13, .inr (.inl v_swellings_high)))] r0 := by
  refine CtI.make (cc := cX7_shrink) (maxL := 4) (ty := .int) (by decide) rfl (Nat.le_of_ble_eq_true rfl) ?_
  intro p e s m below meth c A ls C0 hN hA hP hD hl
  obtain ⟨hx, hb, hr, hml, hown, hts, hlk⟩ := id C0
  have hown : s.vm.findClass RX7 = some m.cls := hown
  have hS : va_S A s.heap s.heap [] := va_S.rf
  have hP : va_P D vwCl [(a_this, .inr (7, [.ref a_slots, .ref a_script, .ref a_history, .ref a_sums, .ref a_addend, .ref a_grids, .ref a_pairings, .ref a_swellings, .ref a_smallestSets])), (a_slots, .inl (cL, 4, .inr (.inl g_slots))), (a_history, .inr (1, [.ref a_history_changed, .ref a_history_before, .int g_history_size])), (a_history_changed, .inl (cI, 6, .inl g_history_changed)), (a_history_before, .inl (cL, 6, .inr (.inl g_history_before))), (a_swellings, .inr (5, [.ref a_swellings_numbers, .ref a_swellings_low, .ref a_swellings_high, .long g_swellings_whole, .long g_swellings_added, .int g_swellings_bestPart, .int g_swellings_bestSums, .int g_swellings_bestSize])), (a_swellings_numbers, .inl (cI, 12, .inl g_swellings_numbers)), (a_swellings_low, .inl (cL, 13, .inr (.inl g_swellings_low))), (a_swellings_high, .inl (cL, 13, .inr (.inl g_swellings_high)))] s.heap := hP
  have hD : va_D A [(a_this, .inr (7, [.ref a_slots, .ref a_script, .ref a_history, .ref a_sums, .ref a_addend, .ref a_grids, .ref a_pairings, .ref a_swellings, .ref a_smallestSets])), (a_slots, .inl (cL, 4, .inr (.inl g_slots))), (a_history, .inr (1, [.ref a_history_changed, .ref a_history_before, .int g_history_size])), (a_history_changed, .inl (cI, 6, .inl g_history_changed)), (a_history_before, .inl (cL, 6, .inr (.inl g_history_before))), (a_swellings, .inr (5, [.ref a_swellings_numbers, .ref a_swellings_low, .ref a_swellings_high, .long g_swellings_whole, .long g_swellings_added, .int g_swellings_bestPart, .int g_swellings_bestSums, .int g_swellings_bestSize])), (a_swellings_numbers, .inl (cI, 12, .inl g_swellings_numbers)), (a_swellings_low, .inl (cL, 13, .inr (.inl g_swellings_low))), (a_swellings_high, .inl (cL, 13, .inr (.inl g_swellings_high)))] := hD
  have hl : lv_has ls 4 [(0, .ref a_this), (1, .int q1), (2, .int q2), (3, .int q3)] := hl
  have z1 := va_cwS (R := rmX7_shrink) (rm := rmX7_isSlot) (mc := 0) (ms := 0) 1 hts gX7_shrink_X7_isSlot rfl rfl rfl (by decide +kernel) ⟨Nat.le_of_ble_eq_true rfl, Nat.le_of_ble_eq_true rfl⟩
  have z2 := cwV (R := rmX7_shrink) (rm := rmX7_canSwell) (mc := 0) (ms := 0) 2 hts gX7_shrink_X7_canSwell rfl rfl rfl (by decide +kernel) ⟨Nat.le_of_ble_eq_true rfl, Nat.le_of_ble_eq_true rfl⟩
  have z3 : ∀ w ∈ u_ws RX7 TX7 9, w ∈ wsX7_shrink := by decide +kernel
  have z4 := hts (.fieldLink RX7 54 "LittleSums" "swellings" "LLittleSums$SwellingSearch;") (by decide +kernel)
  have z5 := hts (.fieldLink RX7 9 "LittleSums" "slots" "[J") (by decide +kernel)
  have z6 := cwV (R := rmX7_shrink) (rm := rmX5_seek) (mc := 0) (ms := 0) 2 hts gX7_shrink_X5_seek rfl rfl rfl (by decide +kernel) ⟨Nat.le_of_ble_eq_true rfl, Nat.le_of_ble_eq_true rfl⟩
  have z7 := cwV (R := rmX7_shrink) (rm := rmX5_bestSet) (mc := 0) (ms := 0) 0 hts gX7_shrink_X5_bestSet rfl rfl rfl (by decide +kernel) ⟨Nat.le_of_ble_eq_true rfl, Nat.le_of_ble_eq_true rfl⟩
  have z8 := cwV (R := rmX7_shrink) (rm := rmX7_change) (mc := 0) (ms := 0) 2 hts gX7_shrink_X7_change rfl rfl rfl (by decide +kernel) ⟨Nat.le_of_ble_eq_true rfl, Nat.le_of_ble_eq_true rfl⟩
  unfold fX7_shrink at hf
  obtain ⟨H, eH⟩ : ∃ z, z = s.heap := ⟨_, rfl⟩
  obtain ⟨locs, eL⟩ : ∃ z : List Loc, z = [] := ⟨_, rfl⟩
  have hP : va_P D vwCl [(a_this, .inr (7, [.ref a_slots, .ref a_script, .ref a_history, .ref a_sums, .ref a_addend, .ref a_grids, .ref a_pairings, .ref a_swellings, .ref a_smallestSets])), (a_slots, .inl (cL, 4, .inr (.inl g_slots))), (a_history, .inr (1, [.ref a_history_changed, .ref a_history_before, .int g_history_size])), (a_history_changed, .inl (cI, 6, .inl g_history_changed)), (a_history_before, .inl (cL, 6, .inr (.inl g_history_before))), (a_swellings, .inr (5, [.ref a_swellings_numbers, .ref a_swellings_low, .ref a_swellings_high, .long g_swellings_whole, .long g_swellings_added, .int g_swellings_bestPart, .int g_swellings_bestSums, .int g_swellings_bestSize])), (a_swellings_numbers, .inl (cI, 12, .inl g_swellings_numbers)), (a_swellings_low, .inl (cL, 13, .inr (.inl g_swellings_low))), (a_swellings_high, .inl (cL, 13, .inr (.inl g_swellings_high)))] H := by rw [eH]; exact hP
  have hS : va_S A s.heap H locs := by rw [eH, eL]; exact hS
  suffices hG : W p l e rmX7_shrink s m ([.ref a_this, .int q1, .int q2, .int q3] : List Value).toArray below meth c H locs 0 0 (MQ below (cQi D r0 A [(a_this, .inr (7, [.ref a_slots, .ref a_script, .ref a_history, .ref a_sums, .ref a_addend, .ref a_grids, .ref a_pairings, .ref a_swellings, .ref a_smallestSets])), (a_slots, .inl (cL, 4, .inr (.inl v_slots))), (a_history, .inr (1, [.ref a_history_changed, .ref a_history_before, .int v_history_size])), (a_history_changed, .inl (cI, 6, .inl v_history_changed)), (a_history_before, .inl (cL, 6, .inr (.inl v_history_before))), (a_swellings, .inr (5, [.ref a_swellings_numbers, .ref a_swellings_low, .ref a_swellings_high, .long v_swellings_whole, .long v_swellings_added, .int v_swellings_bestPart, .int v_swellings_bestSums, .int v_swellings_bestSize])), (a_swellings_numbers, .inl (cI, 12, .inl v_swellings_numbers)), (a_swellings_low, .inl (cL, 13, .inr (.inl v_swellings_low))), (a_swellings_high, .inl (cL, 13, .inr (.inl v_swellings_high)))]) ([.ref a_this, .int q1, .int q2, .int q3] : List Value).toArray s 0 0 A) (F0 m 0 ls []) by rw [eH, eL] at hG; exact hG
  refine lv_iload_n hx hb dX7_shrink_0 rfl (lv_at hl 1 rfl) ?_
  obtain ⟨u1, hu1, hf⟩ := bd_some hf
  refine caSI (rest := []) (As := [.int q1]) (wr := [(a_this, .inr (7, [.ref a_slots, .ref a_script, .ref a_history, .ref a_sums, .ref a_addend, .ref a_grids, .ref a_pairings, .ref a_swellings, .ref a_smallestSets])), (a_slots, .inl (cL, 4, .inr (.inl g_slots))), (a_history, .inr (1, [.ref a_history_changed, .ref a_history_before, .int g_history_size])), (a_history_changed, .inl (cI, 6, .inl g_history_changed)), (a_history_before, .inl (cL, 6, .inr (.inl g_history_before))), (a_swellings, .inr (5, [.ref a_swellings_numbers, .ref a_swellings_low, .ref a_swellings_high, .long g_swellings_whole, .long g_swellings_added, .int g_swellings_bestPart, .int g_swellings_bestSums, .int g_swellings_bestSize])), (a_swellings_numbers, .inl (cI, 12, .inl g_swellings_numbers)), (a_swellings_low, .inl (cL, 13, .inr (.inl g_swellings_low))), (a_swellings_high, .inl (cL, 13, .inr (.inl g_swellings_high)))]) (wo := [(a_this, .inr (7, [.ref a_slots, .ref a_script, .ref a_history, .ref a_sums, .ref a_addend, .ref a_grids, .ref a_pairings, .ref a_swellings, .ref a_smallestSets])), (a_slots, .inl (cL, 4, .inr (.inl g_slots))), (a_history, .inr (1, [.ref a_history_changed, .ref a_history_before, .int g_history_size])), (a_history_changed, .inl (cI, 6, .inl g_history_changed)), (a_history_before, .inl (cL, 6, .inr (.inl g_history_before))), (a_swellings, .inr (5, [.ref a_swellings_numbers, .ref a_swellings_low, .ref a_swellings_high, .long g_swellings_whole, .long g_swellings_added, .int g_swellings_bestPart, .int g_swellings_bestSums, .int g_swellings_bestSize])), (a_swellings_numbers, .inl (cI, 12, .inl g_swellings_numbers)), (a_swellings_low, .inl (cL, 13, .inr (.inl g_swellings_low))), (a_swellings_high, .inl (cL, 13, .inr (.inl g_swellings_high)))]) ⟨hx, hb, hml, hown, hts⟩ hN hP hD hS hA (cX7_isSlot_ct l D cI cL cC cZ q1 u1 hu1) z1 [] [0, 1, 2, 3, 4, 5, 6, 7, 8] [0, 1, 2, 3, 4, 5, 6, 7, 8] rfl (by decide) rfl (by decide) (by decide) rfl (by decide) rfl hl.1 rfl (Nat.le_of_ble_eq_true rfl) dX7_shrink_1 ⟨Nat.zero_le _, Nat.zero_le _⟩ (fun H locs hP hD hS => ?_)
  refine lv_if_eq (tgt := 21) hx hb dX7_shrink_4 (by decide) (fun c2 => ?_) (fun c2 => ?_)
  · have hf := br_pos c2 hf
    refine lv_iconst (v := -1) hx hb dX7_shrink_21 (by decide) ?_
    have hE : ((-1 : Int32), g_slots, g_history_size, g_history_changed, g_history_before, g_swellings_whole, g_swellings_added, g_swellings_bestPart, g_swellings_bestSums, g_swellings_bestSize, g_swellings_numbers, g_swellings_low, g_swellings_high) = (r0, v_slots, v_history_size, v_history_changed, v_history_before, v_swellings_whole, v_swellings_added, v_swellings_bestPart, v_swellings_bestSums, v_swellings_bestSize, v_swellings_numbers, v_swellings_low, v_swellings_high) := Option.some.inj hf
    simp only [Prod.mk.injEq] at hE
    obtain ⟨rfl, rfl, rfl, rfl, rfl, rfl, rfl, rfl, rfl, rfl, rfl, rfl, rfl⟩ := hE
    exact rtI hx hb hr hlk hP hD hS dX7_shrink_22
  · have hf := br_neg c2 hf
    refine lv_iload_n hx hb dX7_shrink_7 rfl (lv_at hl 2 rfl) ?_
    obtain ⟨u3, hu3, hf⟩ := bd_some hf
    refine caSI (rest := []) (As := [.int q2]) (wr := [(a_this, .inr (7, [.ref a_slots, .ref a_script, .ref a_history, .ref a_sums, .ref a_addend, .ref a_grids, .ref a_pairings, .ref a_swellings, .ref a_smallestSets])), (a_slots, .inl (cL, 4, .inr (.inl g_slots))), (a_history, .inr (1, [.ref a_history_changed, .ref a_history_before, .int g_history_size])), (a_history_changed, .inl (cI, 6, .inl g_history_changed)), (a_history_before, .inl (cL, 6, .inr (.inl g_history_before))), (a_swellings, .inr (5, [.ref a_swellings_numbers, .ref a_swellings_low, .ref a_swellings_high, .long g_swellings_whole, .long g_swellings_added, .int g_swellings_bestPart, .int g_swellings_bestSums, .int g_swellings_bestSize])), (a_swellings_numbers, .inl (cI, 12, .inl g_swellings_numbers)), (a_swellings_low, .inl (cL, 13, .inr (.inl g_swellings_low))), (a_swellings_high, .inl (cL, 13, .inr (.inl g_swellings_high)))]) (wo := [(a_this, .inr (7, [.ref a_slots, .ref a_script, .ref a_history, .ref a_sums, .ref a_addend, .ref a_grids, .ref a_pairings, .ref a_swellings, .ref a_smallestSets])), (a_slots, .inl (cL, 4, .inr (.inl g_slots))), (a_history, .inr (1, [.ref a_history_changed, .ref a_history_before, .int g_history_size])), (a_history_changed, .inl (cI, 6, .inl g_history_changed)), (a_history_before, .inl (cL, 6, .inr (.inl g_history_before))), (a_swellings, .inr (5, [.ref a_swellings_numbers, .ref a_swellings_low, .ref a_swellings_high, .long g_swellings_whole, .long g_swellings_added, .int g_swellings_bestPart, .int g_swellings_bestSums, .int g_swellings_bestSize])), (a_swellings_numbers, .inl (cI, 12, .inl g_swellings_numbers)), (a_swellings_low, .inl (cL, 13, .inr (.inl g_swellings_low))), (a_swellings_high, .inl (cL, 13, .inr (.inl g_swellings_high)))]) ⟨hx, hb, hml, hown, hts⟩ hN hP hD hS hA (cX7_isSlot_ct l D cI cL cC cZ q2 u3 hu3) z1 [] [0, 1, 2, 3, 4, 5, 6, 7, 8] [0, 1, 2, 3, 4, 5, 6, 7, 8] rfl (by decide) rfl (by decide) (by decide) rfl (by decide) rfl hl.1 rfl (Nat.le_of_ble_eq_true rfl) dX7_shrink_8 ⟨Nat.zero_le _, Nat.zero_le _⟩ (fun H locs hP hD hS => ?_)
    refine lv_if_eq (tgt := 21) hx hb dX7_shrink_11 (by decide) (fun c4 => ?_) (fun c4 => ?_)
    · have hf := br_pos c4 hf
      refine lv_iconst (v := -1) hx hb dX7_shrink_21 (by decide) ?_
      have hE : ((-1 : Int32), g_slots, g_history_size, g_history_changed, g_history_before, g_swellings_whole, g_swellings_added, g_swellings_bestPart, g_swellings_bestSums, g_swellings_bestSize, g_swellings_numbers, g_swellings_low, g_swellings_high) = (r0, v_slots, v_history_size, v_history_changed, v_history_before, v_swellings_whole, v_swellings_added, v_swellings_bestPart, v_swellings_bestSums, v_swellings_bestSize, v_swellings_numbers, v_swellings_low, v_swellings_high) := Option.some.inj hf
      simp only [Prod.mk.injEq] at hE
      obtain ⟨rfl, rfl, rfl, rfl, rfl, rfl, rfl, rfl, rfl, rfl, rfl, rfl, rfl⟩ := hE
      exact rtI hx hb hr hlk hP hD hS dX7_shrink_22
    · have hf := br_neg c4 hf
      refine lv_iload_n hx hb dX7_shrink_14 rfl (lv_at hl 3 rfl) ?_
      obtain ⟨u5, hu5, hf⟩ := bd_some hf
      refine caSI (rest := []) (As := [.int q3]) (wr := [(a_this, .inr (7, [.ref a_slots, .ref a_script, .ref a_history, .ref a_sums, .ref a_addend, .ref a_grids, .ref a_pairings, .ref a_swellings, .ref a_smallestSets])), (a_slots, .inl (cL, 4, .inr (.inl g_slots))), (a_history, .inr (1, [.ref a_history_changed, .ref a_history_before, .int g_history_size])), (a_history_changed, .inl (cI, 6, .inl g_history_changed)), (a_history_before, .inl (cL, 6, .inr (.inl g_history_before))), (a_swellings, .inr (5, [.ref a_swellings_numbers, .ref a_swellings_low, .ref a_swellings_high, .long g_swellings_whole, .long g_swellings_added, .int g_swellings_bestPart, .int g_swellings_bestSums, .int g_swellings_bestSize])), (a_swellings_numbers, .inl (cI, 12, .inl g_swellings_numbers)), (a_swellings_low, .inl (cL, 13, .inr (.inl g_swellings_low))), (a_swellings_high, .inl (cL, 13, .inr (.inl g_swellings_high)))]) (wo := [(a_this, .inr (7, [.ref a_slots, .ref a_script, .ref a_history, .ref a_sums, .ref a_addend, .ref a_grids, .ref a_pairings, .ref a_swellings, .ref a_smallestSets])), (a_slots, .inl (cL, 4, .inr (.inl g_slots))), (a_history, .inr (1, [.ref a_history_changed, .ref a_history_before, .int g_history_size])), (a_history_changed, .inl (cI, 6, .inl g_history_changed)), (a_history_before, .inl (cL, 6, .inr (.inl g_history_before))), (a_swellings, .inr (5, [.ref a_swellings_numbers, .ref a_swellings_low, .ref a_swellings_high, .long g_swellings_whole, .long g_swellings_added, .int g_swellings_bestPart, .int g_swellings_bestSums, .int g_swellings_bestSize])), (a_swellings_numbers, .inl (cI, 12, .inl g_swellings_numbers)), (a_swellings_low, .inl (cL, 13, .inr (.inl g_swellings_low))), (a_swellings_high, .inl (cL, 13, .inr (.inl g_swellings_high)))]) ⟨hx, hb, hml, hown, hts⟩ hN hP hD hS hA (cX7_isSlot_ct l D cI cL cC cZ q3 u5 hu5) z1 [] [0, 1, 2, 3, 4, 5, 6, 7, 8] [0, 1, 2, 3, 4, 5, 6, 7, 8] rfl (by decide) rfl (by decide) (by decide) rfl (by decide) rfl hl.1 rfl (Nat.le_of_ble_eq_true rfl) dX7_shrink_15 ⟨Nat.zero_le _, Nat.zero_le _⟩ (fun H locs hP hD hS => ?_)
      refine lv_if_ne (tgt := 23) hx hb dX7_shrink_18 (by decide) (fun c6 => ?_) (fun c6 => ?_)
      · have hf := br_neg c6 hf
        refine lv_aload_n hx hb dX7_shrink_23 rfl (lv_at hl 0 rfl) ?_
        refine lv_iload_n hx hb dX7_shrink_24 rfl (lv_at hl 2 rfl) ?_
        refine lv_iload_n hx hb dX7_shrink_25 rfl (lv_at hl 3 rfl) ?_
        obtain ⟨u7, hu7, hf⟩ := bd_some hf
        refine caVI (rest := []) (As := [.int q2, .int q3]) (wr := [(a_history, .inr (1, [.ref a_history_changed, .ref a_history_before, .int g_history_size])), (a_history_changed, .inl (cI, 6, .inl g_history_changed)), (a_history_before, .inl (cL, 6, .inr (.inl g_history_before))), (a_swellings, .inr (5, [.ref a_swellings_numbers, .ref a_swellings_low, .ref a_swellings_high, .long g_swellings_whole, .long g_swellings_added, .int g_swellings_bestPart, .int g_swellings_bestSums, .int g_swellings_bestSize])), (a_swellings_numbers, .inl (cI, 12, .inl g_swellings_numbers)), (a_swellings_low, .inl (cL, 13, .inr (.inl g_swellings_low))), (a_swellings_high, .inl (cL, 13, .inr (.inl g_swellings_high)))]) (wo := [(a_this, .inr (7, [.ref a_slots, .ref a_script, .ref a_history, .ref a_sums, .ref a_addend, .ref a_grids, .ref a_pairings, .ref a_swellings, .ref a_smallestSets])), (a_slots, .inl (cL, 4, .inr (.inl g_slots))), (a_history, .inr (1, [.ref a_history_changed, .ref a_history_before, .int g_history_size])), (a_history_changed, .inl (cI, 6, .inl g_history_changed)), (a_history_before, .inl (cL, 6, .inr (.inl g_history_before))), (a_swellings, .inr (5, [.ref a_swellings_numbers, .ref a_swellings_low, .ref a_swellings_high, .long g_swellings_whole, .long g_swellings_added, .int g_swellings_bestPart, .int g_swellings_bestSums, .int g_swellings_bestSize])), (a_swellings_numbers, .inl (cI, 12, .inl g_swellings_numbers)), (a_swellings_low, .inl (cL, 13, .inr (.inl g_swellings_low))), (a_swellings_high, .inl (cL, 13, .inr (.inl g_swellings_high)))]) ⟨hx, hb, hml, hown, hts⟩ hN hP hD hS hA (cX7_canSwell_ct l D cI cL cC cZ a_this a_slots a_script a_history a_sums a_addend a_grids a_pairings a_swellings a_smallestSets g_slots q2 q3 u7 hu7) z2 0 7 rfl rfl [0, 1] [2, 3, 4, 5, 6, 7, 8] [7, 8, 0, 1, 2, 3, 4, 5, 6] rfl (by decide) rfl (by decide) (by decide) rfl (by decide) rfl hl.1 rfl (Nat.le_of_ble_eq_true rfl) dX7_shrink_26 ⟨Nat.zero_le _, Nat.zero_le _⟩ (fun H locs hP hD hS => ?_)
        refine lv_if_ne (tgt := 35) hx hb dX7_shrink_29 (by decide) (fun c8 => ?_) (fun c8 => ?_)
        · have hf := br_neg c8 hf
          refine lv_aload_n hx hb dX7_shrink_35 rfl (lv_at hl 0 rfl) ?_
          refine va_get (D := D) (ci := 7) (v := .ref a_swellings) (C := RX7) (T := TX7) (N := 9) hx hb hts z3 hown hN.1 hP 0 rfl rfl 7 (by decide) z4 (fun _ h9 => h9) rfl dX7_shrink_36 ?_
          refine lv_aload_n hx hb dX7_shrink_39 rfl (lv_at hl 0 rfl) ?_
          refine va_get (D := D) (ci := 7) (v := .ref a_slots) (C := RX7) (T := TX7) (N := 9) hx hb hts z3 hown hN.1 hP 0 rfl rfl 0 (by decide) z5 (fun _ h9 => h9) rfl dX7_shrink_40 ?_
          refine lv_iload_n hx hb dX7_shrink_43 rfl (lv_at hl 2 rfl) ?_
          obtain ⟨c9, hf⟩ := gd_some hf
          refine va_lald hx hb hN.1 hP 1 1 rfl rfl (ix_in c9) dX7_shrink_44 ?_
          refine lv_aload_n hx hb dX7_shrink_45 rfl (lv_at hl 0 rfl) ?_
          refine va_get (D := D) (ci := 7) (v := .ref a_slots) (C := RX7) (T := TX7) (N := 9) hx hb hts z3 hown hN.1 hP 0 rfl rfl 0 (by decide) z5 (fun _ h9 => h9) rfl dX7_shrink_46 ?_
          refine lv_iload_n hx hb dX7_shrink_49 rfl (lv_at hl 3 rfl) ?_
          obtain ⟨c10, hf⟩ := gd_some hf
          refine va_lald hx hb hN.1 hP 1 1 rfl rfl (ix_in c10) dX7_shrink_50 ?_
          obtain ⟨u11, hu11, hf⟩ := bd_some hf
          refine caVV (rest := []) (As := [.long (g_slots q2.toNatClampNeg), .long (g_slots q3.toNatClampNeg)]) (wr := [(a_this, .inr (7, [.ref a_slots, .ref a_script, .ref a_history, .ref a_sums, .ref a_addend, .ref a_grids, .ref a_pairings, .ref a_swellings, .ref a_smallestSets])), (a_slots, .inl (cL, 4, .inr (.inl g_slots))), (a_history, .inr (1, [.ref a_history_changed, .ref a_history_before, .int g_history_size])), (a_history_changed, .inl (cI, 6, .inl g_history_changed)), (a_history_before, .inl (cL, 6, .inr (.inl g_history_before)))]) (wo := [(a_this, .inr (7, [.ref a_slots, .ref a_script, .ref a_history, .ref a_sums, .ref a_addend, .ref a_grids, .ref a_pairings, .ref a_swellings, .ref a_smallestSets])), (a_slots, .inl (cL, 4, .inr (.inl g_slots))), (a_history, .inr (1, [.ref a_history_changed, .ref a_history_before, .int g_history_size])), (a_history_changed, .inl (cI, 6, .inl g_history_changed)), (a_history_before, .inl (cL, 6, .inr (.inl g_history_before))), (a_swellings, .inr (5, [.ref a_swellings_numbers, .ref a_swellings_low, .ref a_swellings_high, .long u11.1, .long u11.2.1, .int u11.2.2.1, .int u11.2.2.2.1, .int u11.2.2.2.2.1])), (a_swellings_numbers, .inl (cI, 12, .inl u11.2.2.2.2.2.1)), (a_swellings_low, .inl (cL, 13, .inr (.inl u11.2.2.2.2.2.2.1))), (a_swellings_high, .inl (cL, 13, .inr (.inl u11.2.2.2.2.2.2.2)))]) ⟨hx, hb, hml, hown, hts⟩ hN hP hD hS hA (cX5_seek_ct l D cI cL cC cZ a_swellings a_swellings_numbers a_swellings_low a_swellings_high g_swellings_whole g_swellings_added g_swellings_bestPart g_swellings_bestSums g_swellings_bestSize g_swellings_numbers g_swellings_low g_swellings_high (g_slots q2.toNatClampNeg) (g_slots q3.toNatClampNeg) u11.1 u11.2.1 u11.2.2.1 u11.2.2.2.1 u11.2.2.2.2.1 u11.2.2.2.2.2.1 u11.2.2.2.2.2.2.1 u11.2.2.2.2.2.2.2 hu11) z6 5 5 rfl rfl [5, 6, 7, 8] [0, 1, 2, 3, 4] [0, 1, 2, 3, 4, 5, 6, 7, 8] rfl (by decide) rfl (by decide) (by decide) rfl (by decide) rfl hl.1 rfl (Nat.le_of_ble_eq_true rfl) dX7_shrink_51 ⟨Nat.zero_le _, Nat.zero_le _⟩ (fun H locs hP hD hS => ?_)
          refine lv_aload_n hx hb dX7_shrink_54 rfl (lv_at hl 0 rfl) ?_
          refine lv_iload_n hx hb dX7_shrink_55 rfl (lv_at hl 1 rfl) ?_
          refine lv_aload_n hx hb dX7_shrink_56 rfl (lv_at hl 0 rfl) ?_
          refine va_get (D := D) (ci := 7) (v := .ref a_swellings) (C := RX7) (T := TX7) (N := 9) hx hb hts z3 hown hN.1 hP 0 rfl rfl 7 (by decide) z4 (fun _ h9 => h9) rfl dX7_shrink_57 ?_
          obtain ⟨u12, hu12, hf⟩ := bd_some hf
          refine caVL (rest := [.int q1, .ref a_this]) (As := []) (wr := [(a_this, .inr (7, [.ref a_slots, .ref a_script, .ref a_history, .ref a_sums, .ref a_addend, .ref a_grids, .ref a_pairings, .ref a_swellings, .ref a_smallestSets])), (a_slots, .inl (cL, 4, .inr (.inl g_slots))), (a_history, .inr (1, [.ref a_history_changed, .ref a_history_before, .int g_history_size])), (a_history_changed, .inl (cI, 6, .inl g_history_changed)), (a_history_before, .inl (cL, 6, .inr (.inl g_history_before))), (a_swellings_low, .inl (cL, 13, .inr (.inl u11.2.2.2.2.2.2.1))), (a_swellings_high, .inl (cL, 13, .inr (.inl u11.2.2.2.2.2.2.2)))]) (wo := [(a_this, .inr (7, [.ref a_slots, .ref a_script, .ref a_history, .ref a_sums, .ref a_addend, .ref a_grids, .ref a_pairings, .ref a_swellings, .ref a_smallestSets])), (a_slots, .inl (cL, 4, .inr (.inl g_slots))), (a_history, .inr (1, [.ref a_history_changed, .ref a_history_before, .int g_history_size])), (a_history_changed, .inl (cI, 6, .inl g_history_changed)), (a_history_before, .inl (cL, 6, .inr (.inl g_history_before))), (a_swellings, .inr (5, [.ref a_swellings_numbers, .ref a_swellings_low, .ref a_swellings_high, .long u11.1, .long u11.2.1, .int u11.2.2.1, .int u11.2.2.2.1, .int u11.2.2.2.2.1])), (a_swellings_numbers, .inl (cI, 12, .inl u11.2.2.2.2.2.1)), (a_swellings_low, .inl (cL, 13, .inr (.inl u11.2.2.2.2.2.2.1))), (a_swellings_high, .inl (cL, 13, .inr (.inl u11.2.2.2.2.2.2.2)))]) ⟨hx, hb, hml, hown, hts⟩ hN hP hD hS hA (cX5_bestSet_ct l D cI cL cC cZ a_swellings a_swellings_numbers a_swellings_low a_swellings_high u11.1 u11.2.1 u11.2.2.1 u11.2.2.2.1 u11.2.2.2.2.1 u11.2.2.2.2.2.1 u12 hu12) z7 5 5 rfl rfl [5, 6] [0, 1, 2, 3, 4, 7, 8] [0, 1, 2, 3, 4, 7, 8, 5, 6] rfl (by decide) rfl (by decide) (by decide) rfl (by decide) rfl hl.1 rfl (Nat.le_of_ble_eq_true rfl) dX7_shrink_60 ⟨Nat.zero_le _, Nat.zero_le _⟩ (fun H locs hP hD hS => ?_)
          obtain ⟨u13, hu13, hf⟩ := bd_some hf
          refine caVI (rest := []) (As := [.int q1, .long u12]) (wr := [(a_swellings, .inr (5, [.ref a_swellings_numbers, .ref a_swellings_low, .ref a_swellings_high, .long u11.1, .long u11.2.1, .int u11.2.2.1, .int u11.2.2.2.1, .int u11.2.2.2.2.1])), (a_swellings_numbers, .inl (cI, 12, .inl u11.2.2.2.2.2.1)), (a_swellings_low, .inl (cL, 13, .inr (.inl u11.2.2.2.2.2.2.1))), (a_swellings_high, .inl (cL, 13, .inr (.inl u11.2.2.2.2.2.2.2)))]) (wo := [(a_this, .inr (7, [.ref a_slots, .ref a_script, .ref a_history, .ref a_sums, .ref a_addend, .ref a_grids, .ref a_pairings, .ref a_swellings, .ref a_smallestSets])), (a_slots, .inl (cL, 4, .inr (.inl u13.2.1))), (a_history, .inr (1, [.ref a_history_changed, .ref a_history_before, .int u13.2.2.1])), (a_history_changed, .inl (cI, 6, .inl u13.2.2.2.1)), (a_history_before, .inl (cL, 6, .inr (.inl u13.2.2.2.2))), (a_swellings, .inr (5, [.ref a_swellings_numbers, .ref a_swellings_low, .ref a_swellings_high, .long u11.1, .long u11.2.1, .int u11.2.2.1, .int u11.2.2.2.1, .int u11.2.2.2.2.1])), (a_swellings_numbers, .inl (cI, 12, .inl u11.2.2.2.2.2.1)), (a_swellings_low, .inl (cL, 13, .inr (.inl u11.2.2.2.2.2.2.1))), (a_swellings_high, .inl (cL, 13, .inr (.inl u11.2.2.2.2.2.2.2)))]) ⟨hx, hb, hml, hown, hts⟩ hN hP hD hS hA (cX7_change_ct l D cI cL cC cZ a_this a_slots a_script a_history a_sums a_addend a_grids a_pairings a_swellings a_smallestSets a_history_changed a_history_before g_slots g_history_size g_history_changed g_history_before q1 u12 u13.1 u13.2.1 u13.2.2.1 u13.2.2.2.1 u13.2.2.2.2 hu13) z8 0 7 rfl rfl [0, 1, 2, 3, 4] [5, 6, 7, 8] [4, 5, 6, 7, 8, 0, 1, 2, 3] rfl (by decide) rfl (by decide) (by decide) rfl (by decide) rfl hl.1 rfl (Nat.le_of_ble_eq_true rfl) dX7_shrink_63 ⟨Nat.zero_le _, Nat.zero_le _⟩ (fun H locs hP hD hS => ?_)
          have hE : (u13.1, u13.2.1, u13.2.2.1, u13.2.2.2.1, u13.2.2.2.2, u11.1, u11.2.1, u11.2.2.1, u11.2.2.2.1, u11.2.2.2.2.1, u11.2.2.2.2.2.1, u11.2.2.2.2.2.2.1, u11.2.2.2.2.2.2.2) = (r0, v_slots, v_history_size, v_history_changed, v_history_before, v_swellings_whole, v_swellings_added, v_swellings_bestPart, v_swellings_bestSums, v_swellings_bestSize, v_swellings_numbers, v_swellings_low, v_swellings_high) := Option.some.inj hf
          simp only [Prod.mk.injEq] at hE
          obtain ⟨rfl, rfl, rfl, rfl, rfl, rfl, rfl, rfl, rfl, rfl, rfl, rfl, rfl⟩ := hE
          exact rtI hx hb hr hlk hP hD hS dX7_shrink_66
        · have hf := br_pos c8 hf
          refine lv_bipush (v := -2) hx hb dX7_shrink_32 (by decide) ?_
          have hE : ((-2 : Int32), g_slots, g_history_size, g_history_changed, g_history_before, g_swellings_whole, g_swellings_added, g_swellings_bestPart, g_swellings_bestSums, g_swellings_bestSize, g_swellings_numbers, g_swellings_low, g_swellings_high) = (r0, v_slots, v_history_size, v_history_changed, v_history_before, v_swellings_whole, v_swellings_added, v_swellings_bestPart, v_swellings_bestSums, v_swellings_bestSize, v_swellings_numbers, v_swellings_low, v_swellings_high) := Option.some.inj hf
          simp only [Prod.mk.injEq] at hE
          obtain ⟨rfl, rfl, rfl, rfl, rfl, rfl, rfl, rfl, rfl, rfl, rfl, rfl, rfl⟩ := hE
          exact rtI hx hb hr hlk hP hD hS dX7_shrink_34
      · have hf := br_pos c6 hf
        refine lv_iconst (v := -1) hx hb dX7_shrink_21 (by decide) ?_
        have hE : ((-1 : Int32), g_slots, g_history_size, g_history_changed, g_history_before, g_swellings_whole, g_swellings_added, g_swellings_bestPart, g_swellings_bestSums, g_swellings_bestSize, g_swellings_numbers, g_swellings_low, g_swellings_high) = (r0, v_slots, v_history_size, v_history_changed, v_history_before, v_swellings_whole, v_swellings_added, v_swellings_bestPart, v_swellings_bestSums, v_swellings_bestSize, v_swellings_numbers, v_swellings_low, v_swellings_high) := Option.some.inj hf
        simp only [Prod.mk.injEq] at hE
        obtain ⟨rfl, rfl, rfl, rfl, rfl, rfl, rfl, rfl, rfl, rfl, rfl, rfl, rfl⟩ := hE
        exact rtI hx hb hr hlk hP hD hS dX7_shrink_22
abbrev rmX7_undo : Room := { frames := 1, cells := 0, slots := 0, locals := 20 }
noncomputable def fX7_undo (g_slots : Nat → Int64) (g_history_size : Int32) (g_history_changed : Nat → Int32) (g_history_before : Nat → Int64) : Option (Int32 × (Nat → Int64) × Int32) := bd (fX1_latestSlot g_history_size g_history_changed) (fun u1 => bd (fX7_isSlot u1) (fun u2 => br (u2 = 0) (some (((-2 : Int32), g_slots, g_history_size))) (bd (fX1_latestSet g_history_size g_history_before) (fun u4 => gd (¬ u1 < 0 ∧ u1.toNatClampNeg < 4) (lt_ (vp_updL g_slots u1.toNatClampNeg u4) (fun y6 => bd (fX1_dropLatest g_history_size) (fun u7 => bd (fX1_size u7) (fun u8 => some ((u8, y6, u7))))))))))
set_option maxHeartbeats 4000000 in
set_option maxRecDepth 100000 in
theorem cX7_undo_ct (l : Launch) (D : va_G) (cI cL cC cZ : ClassId) (a_this a_slots a_script a_history a_sums a_addend a_grids a_pairings a_swellings a_smallestSets a_history_changed a_history_before : Nat) (g_slots : Nat → Int64) (g_history_size : Int32) (g_history_changed : Nat → Int32) (g_history_before : Nat → Int64) (r0 : Int32) (v_slots : Nat → Int64) (v_history_size : Int32) (hf : fX7_undo g_slots g_history_size g_history_changed g_history_before = some ((r0, v_slots, v_history_size))) : CtI l yX7_undo wsX7_undo rmX7_undo D (tyz cI cL cC cZ) [.ref a_this] [(a_this, .inr (7, [.ref a_slots, .ref a_script, .ref a_history, .ref a_sums, .ref a_addend, .ref a_grids, .ref a_pairings, .ref a_swellings, .ref a_smallestSets])), (a_slots, .inl (cL, 4, .inr (.inl g_slots))), (a_history, .inr (1, [.ref a_history_changed, .ref a_history_before, .int g_history_size])), (a_history_changed, .inl (cI, 6, .inl g_history_changed)), (a_history_before, .inl (cL, 6, .inr (.inl g_history_before)))] [(a_this, .inr (7, [.ref a_slots, .ref a_script, .ref a_history, .ref a_sums, .ref a_addend, .ref a_grids, .ref a_pairings, .ref a_swellings, .ref a_smallestSets])), (a_slots, .inl (cL, 4, .inr (.inl v_slots))), (a_history, .inr (1, [.ref a_history_changed, .ref a_history_before, .int v_history_size])), (a_history_changed, .inl (cI, 6, .inl g_history_changed)), (a_history_before, .inl (cL, 6, .inr (.inl g_history_before)))] r0 := by
  refine CtI.make (cc := cX7_undo) (maxL := 2) (ty := .int) (by decide) rfl (Nat.le_of_ble_eq_true rfl) ?_
  intro p e s m below meth c A ls C0 hN hA hP hD hl
  obtain ⟨hx, hb, hr, hml, hown, hts, hlk⟩ := id C0
  have hown : s.vm.findClass RX7 = some m.cls := hown
  have hS : va_S A s.heap s.heap [] := va_S.rf
  have hP : va_P D vwCl [(a_this, .inr (7, [.ref a_slots, .ref a_script, .ref a_history, .ref a_sums, .ref a_addend, .ref a_grids, .ref a_pairings, .ref a_swellings, .ref a_smallestSets])), (a_slots, .inl (cL, 4, .inr (.inl g_slots))), (a_history, .inr (1, [.ref a_history_changed, .ref a_history_before, .int g_history_size])), (a_history_changed, .inl (cI, 6, .inl g_history_changed)), (a_history_before, .inl (cL, 6, .inr (.inl g_history_before)))] s.heap := hP
  have hD : va_D A [(a_this, .inr (7, [.ref a_slots, .ref a_script, .ref a_history, .ref a_sums, .ref a_addend, .ref a_grids, .ref a_pairings, .ref a_swellings, .ref a_smallestSets])), (a_slots, .inl (cL, 4, .inr (.inl g_slots))), (a_history, .inr (1, [.ref a_history_changed, .ref a_history_before, .int g_history_size])), (a_history_changed, .inl (cI, 6, .inl g_history_changed)), (a_history_before, .inl (cL, 6, .inr (.inl g_history_before)))] := hD
  have hl : lv_has ls 2 [(0, .ref a_this)] := hl
  have z1 : ∀ w ∈ u_ws RX7 TX7 9, w ∈ wsX7_undo := by decide +kernel
  have z2 := hts (.fieldLink RX7 23 "LittleSums" "history" "LLittleSums$History;") (by decide +kernel)
  have z3 := cwV (R := rmX7_undo) (rm := rmX1_latestSlot) (mc := 0) (ms := 0) 0 hts gX7_undo_X1_latestSlot rfl rfl rfl (by decide +kernel) ⟨Nat.le_of_ble_eq_true rfl, Nat.le_of_ble_eq_true rfl⟩
  have z4 := va_cwS (R := rmX7_undo) (rm := rmX7_isSlot) (mc := 0) (ms := 0) 1 hts gX7_undo_X7_isSlot rfl rfl rfl (by decide +kernel) ⟨Nat.le_of_ble_eq_true rfl, Nat.le_of_ble_eq_true rfl⟩
  have z5 := hts (.fieldLink RX7 9 "LittleSums" "slots" "[J") (by decide +kernel)
  have z6 := cwV (R := rmX7_undo) (rm := rmX1_latestSet) (mc := 0) (ms := 0) 0 hts gX7_undo_X1_latestSet rfl rfl rfl (by decide +kernel) ⟨Nat.le_of_ble_eq_true rfl, Nat.le_of_ble_eq_true rfl⟩
  have z7 := cwV (R := rmX7_undo) (rm := rmX1_dropLatest) (mc := 0) (ms := 0) 0 hts gX7_undo_X1_dropLatest rfl rfl rfl (by decide +kernel) ⟨Nat.le_of_ble_eq_true rfl, Nat.le_of_ble_eq_true rfl⟩
  have z8 := cwV (R := rmX7_undo) (rm := rmX1_size) (mc := 0) (ms := 0) 0 hts gX7_undo_X1_size rfl rfl rfl (by decide +kernel) ⟨Nat.le_of_ble_eq_true rfl, Nat.le_of_ble_eq_true rfl⟩
  unfold fX7_undo at hf
  obtain ⟨H, eH⟩ : ∃ z, z = s.heap := ⟨_, rfl⟩
  obtain ⟨locs, eL⟩ : ∃ z : List Loc, z = [] := ⟨_, rfl⟩
  have hP : va_P D vwCl [(a_this, .inr (7, [.ref a_slots, .ref a_script, .ref a_history, .ref a_sums, .ref a_addend, .ref a_grids, .ref a_pairings, .ref a_swellings, .ref a_smallestSets])), (a_slots, .inl (cL, 4, .inr (.inl g_slots))), (a_history, .inr (1, [.ref a_history_changed, .ref a_history_before, .int g_history_size])), (a_history_changed, .inl (cI, 6, .inl g_history_changed)), (a_history_before, .inl (cL, 6, .inr (.inl g_history_before)))] H := by rw [eH]; exact hP
  have hS : va_S A s.heap H locs := by rw [eH, eL]; exact hS
  suffices hG : W p l e rmX7_undo s m ([.ref a_this] : List Value).toArray below meth c H locs 0 0 (MQ below (cQi D r0 A [(a_this, .inr (7, [.ref a_slots, .ref a_script, .ref a_history, .ref a_sums, .ref a_addend, .ref a_grids, .ref a_pairings, .ref a_swellings, .ref a_smallestSets])), (a_slots, .inl (cL, 4, .inr (.inl v_slots))), (a_history, .inr (1, [.ref a_history_changed, .ref a_history_before, .int v_history_size])), (a_history_changed, .inl (cI, 6, .inl g_history_changed)), (a_history_before, .inl (cL, 6, .inr (.inl g_history_before)))]) ([.ref a_this] : List Value).toArray s 0 0 A) (F0 m 0 ls []) by rw [eH, eL] at hG; exact hG
  refine lv_aload_n hx hb dX7_undo_0 rfl (lv_at hl 0 rfl) ?_
  refine va_get (D := D) (ci := 7) (v := .ref a_history) (C := RX7) (T := TX7) (N := 9) hx hb hts z1 hown hN.1 hP 0 rfl rfl 2 (by decide) z2 (fun _ h9 => h9) rfl dX7_undo_1 ?_
  obtain ⟨u1, hu1, hf⟩ := bd_some hf
  refine caVI (rest := []) (As := []) (wr := [(a_this, .inr (7, [.ref a_slots, .ref a_script, .ref a_history, .ref a_sums, .ref a_addend, .ref a_grids, .ref a_pairings, .ref a_swellings, .ref a_smallestSets])), (a_slots, .inl (cL, 4, .inr (.inl g_slots))), (a_history_before, .inl (cL, 6, .inr (.inl g_history_before)))]) (wo := [(a_this, .inr (7, [.ref a_slots, .ref a_script, .ref a_history, .ref a_sums, .ref a_addend, .ref a_grids, .ref a_pairings, .ref a_swellings, .ref a_smallestSets])), (a_slots, .inl (cL, 4, .inr (.inl g_slots))), (a_history, .inr (1, [.ref a_history_changed, .ref a_history_before, .int g_history_size])), (a_history_changed, .inl (cI, 6, .inl g_history_changed)), (a_history_before, .inl (cL, 6, .inr (.inl g_history_before)))]) ⟨hx, hb, hml, hown, hts⟩ hN hP hD hS hA (cX1_latestSlot_ct l D cI cL cC cZ a_history a_history_changed a_history_before g_history_size g_history_changed u1 hu1) z3 2 1 rfl rfl [2, 3] [0, 1, 4] [0, 1, 3, 4, 2] rfl (by decide) rfl (by decide) (by decide) rfl (by decide) rfl hl.1 rfl (Nat.le_of_ble_eq_true rfl) dX7_undo_4 ⟨Nat.zero_le _, Nat.zero_le _⟩ (fun H locs hP hD hS => ?_)
  refine lv_istore_n (lv' := [(1, .int u1), (0, .ref a_this)]) hx hb dX7_undo_7 rfl hl (by decide) rfl (fun ls hl => ?_)
  refine lv_iload_n hx hb dX7_undo_8 rfl (lv_at hl 0 rfl) ?_
  obtain ⟨u2, hu2, hf⟩ := bd_some hf
  refine caSI (rest := []) (As := [.int u1]) (wr := [(a_this, .inr (7, [.ref a_slots, .ref a_script, .ref a_history, .ref a_sums, .ref a_addend, .ref a_grids, .ref a_pairings, .ref a_swellings, .ref a_smallestSets])), (a_slots, .inl (cL, 4, .inr (.inl g_slots))), (a_history, .inr (1, [.ref a_history_changed, .ref a_history_before, .int g_history_size])), (a_history_changed, .inl (cI, 6, .inl g_history_changed)), (a_history_before, .inl (cL, 6, .inr (.inl g_history_before)))]) (wo := [(a_this, .inr (7, [.ref a_slots, .ref a_script, .ref a_history, .ref a_sums, .ref a_addend, .ref a_grids, .ref a_pairings, .ref a_swellings, .ref a_smallestSets])), (a_slots, .inl (cL, 4, .inr (.inl g_slots))), (a_history, .inr (1, [.ref a_history_changed, .ref a_history_before, .int g_history_size])), (a_history_changed, .inl (cI, 6, .inl g_history_changed)), (a_history_before, .inl (cL, 6, .inr (.inl g_history_before)))]) ⟨hx, hb, hml, hown, hts⟩ hN hP hD hS hA (cX7_isSlot_ct l D cI cL cC cZ u1 u2 hu2) z4 [] [0, 1, 2, 3, 4] [0, 1, 2, 3, 4] rfl (by decide) rfl (by decide) (by decide) rfl (by decide) rfl hl.1 rfl (Nat.le_of_ble_eq_true rfl) dX7_undo_9 ⟨Nat.zero_le _, Nat.zero_le _⟩ (fun H locs hP hD hS => ?_)
  refine lv_if_ne (tgt := 18) hx hb dX7_undo_12 (by decide) (fun c3 => ?_) (fun c3 => ?_)
  · have hf := br_neg c3 hf
    refine lv_aload_n hx hb dX7_undo_18 rfl (lv_at hl 1 rfl) ?_
    refine va_get (D := D) (ci := 7) (v := .ref a_slots) (C := RX7) (T := TX7) (N := 9) hx hb hts z1 hown hN.1 hP 0 rfl rfl 0 (by decide) z5 (fun _ h9 => h9) rfl dX7_undo_19 ?_
    refine lv_iload_n hx hb dX7_undo_22 rfl (lv_at hl 0 rfl) ?_
    refine lv_aload_n hx hb dX7_undo_23 rfl (lv_at hl 1 rfl) ?_
    refine va_get (D := D) (ci := 7) (v := .ref a_history) (C := RX7) (T := TX7) (N := 9) hx hb hts z1 hown hN.1 hP 0 rfl rfl 2 (by decide) z2 (fun _ h9 => h9) rfl dX7_undo_24 ?_
    obtain ⟨u4, hu4, hf⟩ := bd_some hf
    refine caVL (rest := [.int u1, .ref a_slots]) (As := []) (wr := [(a_this, .inr (7, [.ref a_slots, .ref a_script, .ref a_history, .ref a_sums, .ref a_addend, .ref a_grids, .ref a_pairings, .ref a_swellings, .ref a_smallestSets])), (a_slots, .inl (cL, 4, .inr (.inl g_slots))), (a_history_changed, .inl (cI, 6, .inl g_history_changed))]) (wo := [(a_this, .inr (7, [.ref a_slots, .ref a_script, .ref a_history, .ref a_sums, .ref a_addend, .ref a_grids, .ref a_pairings, .ref a_swellings, .ref a_smallestSets])), (a_slots, .inl (cL, 4, .inr (.inl g_slots))), (a_history, .inr (1, [.ref a_history_changed, .ref a_history_before, .int g_history_size])), (a_history_changed, .inl (cI, 6, .inl g_history_changed)), (a_history_before, .inl (cL, 6, .inr (.inl g_history_before)))]) ⟨hx, hb, hml, hown, hts⟩ hN hP hD hS hA (cX1_latestSet_ct l D cI cL cC cZ a_history a_history_changed a_history_before g_history_size g_history_before u4 hu4) z6 2 1 rfl rfl [2, 4] [0, 1, 3] [0, 1, 3, 2, 4] rfl (by decide) rfl (by decide) (by decide) rfl (by decide) rfl hl.1 rfl (Nat.le_of_ble_eq_true rfl) dX7_undo_27 ⟨Nat.zero_le _, Nat.zero_le _⟩ (fun H locs hP hD hS => ?_)
    obtain ⟨c5, hf⟩ := gd_some hf
    refine va_last hx hb hN.1 hP hD hS 1 1 rfl rfl (ix_in c5) dX7_undo_30 (fun H locs hP hD hS => ?_)
    obtain ⟨y6, ey6⟩ : ∃ z, z = vp_updL g_slots u1.toNatClampNeg u4 := ⟨_, rfl⟩
    have hf := lt_some hf y6 ey6
    have hP : va_P D vwCl [(a_this, .inr (7, [.ref a_slots, .ref a_script, .ref a_history, .ref a_sums, .ref a_addend, .ref a_grids, .ref a_pairings, .ref a_swellings, .ref a_smallestSets])), (a_slots, .inl (cL, 4, .inr (.inl y6))), (a_history, .inr (1, [.ref a_history_changed, .ref a_history_before, .int g_history_size])), (a_history_changed, .inl (cI, 6, .inl g_history_changed)), (a_history_before, .inl (cL, 6, .inr (.inl g_history_before)))] H := by rw [ey6]; exact hP
    have hD : va_D A [(a_this, .inr (7, [.ref a_slots, .ref a_script, .ref a_history, .ref a_sums, .ref a_addend, .ref a_grids, .ref a_pairings, .ref a_swellings, .ref a_smallestSets])), (a_slots, .inl (cL, 4, .inr (.inl y6))), (a_history, .inr (1, [.ref a_history_changed, .ref a_history_before, .int g_history_size])), (a_history_changed, .inl (cI, 6, .inl g_history_changed)), (a_history_before, .inl (cL, 6, .inr (.inl g_history_before)))] := by rw [ey6]; exact hD
    refine lv_aload_n hx hb dX7_undo_31 rfl (lv_at hl 1 rfl) ?_
    refine va_get (D := D) (ci := 7) (v := .ref a_history) (C := RX7) (T := TX7) (N := 9) hx hb hts z1 hown hN.1 hP 0 rfl rfl 2 (by decide) z2 (fun _ h9 => h9) rfl dX7_undo_32 ?_
    obtain ⟨u7, hu7, hf⟩ := bd_some hf
    refine caVV (rest := []) (As := []) (wr := [(a_this, .inr (7, [.ref a_slots, .ref a_script, .ref a_history, .ref a_sums, .ref a_addend, .ref a_grids, .ref a_pairings, .ref a_swellings, .ref a_smallestSets])), (a_slots, .inl (cL, 4, .inr (.inl y6))), (a_history_changed, .inl (cI, 6, .inl g_history_changed)), (a_history_before, .inl (cL, 6, .inr (.inl g_history_before)))]) (wo := [(a_this, .inr (7, [.ref a_slots, .ref a_script, .ref a_history, .ref a_sums, .ref a_addend, .ref a_grids, .ref a_pairings, .ref a_swellings, .ref a_smallestSets])), (a_slots, .inl (cL, 4, .inr (.inl y6))), (a_history, .inr (1, [.ref a_history_changed, .ref a_history_before, .int u7])), (a_history_changed, .inl (cI, 6, .inl g_history_changed)), (a_history_before, .inl (cL, 6, .inr (.inl g_history_before)))]) ⟨hx, hb, hml, hown, hts⟩ hN hP hD hS hA (cX1_dropLatest_ct l D cI cL cC cZ a_history a_history_changed a_history_before g_history_size u7 hu7) z7 2 1 rfl rfl [2] [0, 1, 3, 4] [0, 1, 4, 2, 3] rfl (by decide) rfl (by decide) (by decide) rfl (by decide) rfl hl.1 rfl (Nat.le_of_ble_eq_true rfl) dX7_undo_35 ⟨Nat.zero_le _, Nat.zero_le _⟩ (fun H locs hP hD hS => ?_)
    refine lv_aload_n hx hb dX7_undo_38 rfl (lv_at hl 1 rfl) ?_
    refine va_get (D := D) (ci := 7) (v := .ref a_history) (C := RX7) (T := TX7) (N := 9) hx hb hts z1 hown hN.1 hP 0 rfl rfl 2 (by decide) z2 (fun _ h9 => h9) rfl dX7_undo_39 ?_
    obtain ⟨u8, hu8, hf⟩ := bd_some hf
    refine caVI (rest := []) (As := []) (wr := [(a_this, .inr (7, [.ref a_slots, .ref a_script, .ref a_history, .ref a_sums, .ref a_addend, .ref a_grids, .ref a_pairings, .ref a_swellings, .ref a_smallestSets])), (a_slots, .inl (cL, 4, .inr (.inl y6))), (a_history_changed, .inl (cI, 6, .inl g_history_changed)), (a_history_before, .inl (cL, 6, .inr (.inl g_history_before)))]) (wo := [(a_this, .inr (7, [.ref a_slots, .ref a_script, .ref a_history, .ref a_sums, .ref a_addend, .ref a_grids, .ref a_pairings, .ref a_swellings, .ref a_smallestSets])), (a_slots, .inl (cL, 4, .inr (.inl y6))), (a_history, .inr (1, [.ref a_history_changed, .ref a_history_before, .int u7])), (a_history_changed, .inl (cI, 6, .inl g_history_changed)), (a_history_before, .inl (cL, 6, .inr (.inl g_history_before)))]) ⟨hx, hb, hml, hown, hts⟩ hN hP hD hS hA (cX1_size_ct l D cI cL cC cZ a_history a_history_changed a_history_before u7 u8 hu8) z8 2 1 rfl rfl [2] [0, 1, 3, 4] [0, 1, 4, 2, 3] rfl (by decide) rfl (by decide) (by decide) rfl (by decide) rfl hl.1 rfl (Nat.le_of_ble_eq_true rfl) dX7_undo_42 ⟨Nat.zero_le _, Nat.zero_le _⟩ (fun H locs hP hD hS => ?_)
    have hE : (u8, y6, u7) = (r0, v_slots, v_history_size) := Option.some.inj hf
    simp only [Prod.mk.injEq] at hE
    obtain ⟨rfl, rfl, rfl⟩ := hE
    exact rtI hx hb hr hlk hP hD hS dX7_undo_45
  · have hf := br_pos c3 hf
    refine lv_bipush (v := -2) hx hb dX7_undo_15 (by decide) ?_
    have hE : ((-2 : Int32), g_slots, g_history_size) = (r0, v_slots, v_history_size) := Option.some.inj hf
    simp only [Prod.mk.injEq] at hE
    obtain ⟨rfl, rfl, rfl⟩ := hE
    exact rtI hx hb hr hlk hP hD hS dX7_undo_17
abbrev rmX7_member : Room := { frames := 4, cells := 0, slots := 0, locals := 89 }
noncomputable def fX7_member (q1 : Int32) (q2 : Int32) (g_slots : Nat → Int64) : Option (Int32) := bd (fX7_isSlot q1) (fun u1 => br (u1 = 0) (some ((-1 : Int32))) (br ((-1 : Int32) ≤ q2) (br (q2 = (-1 : Int32)) (gd (¬ q1 < 0 ∧ q1.toNatClampNeg < 4) (bd (fJ13_bitCount_95d88 (g_slots q1.toNatClampNeg)) (fun u8 => some (u8)))) (gd (¬ q1 < 0 ∧ q1.toNatClampNeg < 4) (bd (fX7_numberAt (g_slots q1.toNatClampNeg) q2) (fun u6 => some (u6))))) (some ((-1 : Int32)))))
set_option maxHeartbeats 4000000 in
set_option maxRecDepth 100000 in
theorem cX7_member_ct (l : Launch) (D : va_G) (cI cL cC cZ : ClassId) (a_this a_slots a_script a_history a_sums a_addend a_grids a_pairings a_swellings a_smallestSets : Nat) (g_slots : Nat → Int64) (q1 : Int32) (q2 : Int32) (r0 : Int32) (hf : fX7_member q1 q2 g_slots = some r0) : CtI l yX7_member wsX7_member rmX7_member D (tyz cI cL cC cZ) [.ref a_this, .int q1, .int q2] [(a_this, .inr (7, [.ref a_slots, .ref a_script, .ref a_history, .ref a_sums, .ref a_addend, .ref a_grids, .ref a_pairings, .ref a_swellings, .ref a_smallestSets])), (a_slots, .inl (cL, 4, .inr (.inl g_slots)))] [(a_this, .inr (7, [.ref a_slots, .ref a_script, .ref a_history, .ref a_sums, .ref a_addend, .ref a_grids, .ref a_pairings, .ref a_swellings, .ref a_smallestSets])), (a_slots, .inl (cL, 4, .inr (.inl g_slots)))] r0 := by
  refine CtI.make (cc := cX7_member) (maxL := 3) (ty := .int) (by decide) rfl (Nat.le_of_ble_eq_true rfl) ?_
  intro p e s m below meth c A ls C0 hN hA hP hD hl
  obtain ⟨hx, hb, hr, hml, hown, hts, hlk⟩ := id C0
  have hown : s.vm.findClass RX7 = some m.cls := hown
  have hS : va_S A s.heap s.heap [] := va_S.rf
  have hP : va_P D vwCl [(a_this, .inr (7, [.ref a_slots, .ref a_script, .ref a_history, .ref a_sums, .ref a_addend, .ref a_grids, .ref a_pairings, .ref a_swellings, .ref a_smallestSets])), (a_slots, .inl (cL, 4, .inr (.inl g_slots)))] s.heap := hP
  have hD : va_D A [(a_this, .inr (7, [.ref a_slots, .ref a_script, .ref a_history, .ref a_sums, .ref a_addend, .ref a_grids, .ref a_pairings, .ref a_swellings, .ref a_smallestSets])), (a_slots, .inl (cL, 4, .inr (.inl g_slots)))] := hD
  have hl : lv_has ls 3 [(0, .ref a_this), (1, .int q1), (2, .int q2)] := hl
  have z1 := va_cwS (R := rmX7_member) (rm := rmX7_isSlot) (mc := 0) (ms := 0) 1 hts gX7_member_X7_isSlot rfl rfl rfl (by decide +kernel) ⟨Nat.le_of_ble_eq_true rfl, Nat.le_of_ble_eq_true rfl⟩
  have z2 : ∀ w ∈ u_ws RX7 TX7 9, w ∈ wsX7_member := by decide +kernel
  have z3 := hts (.fieldLink RX7 9 "LittleSums" "slots" "[J") (by decide +kernel)
  have z4 := va_cwS (R := rmX7_member) (rm := rmX7_numberAt) (mc := 0) (ms := 0) 2 hts gX7_member_X7_numberAt rfl rfl rfl (by decide +kernel) ⟨Nat.le_of_ble_eq_true rfl, Nat.le_of_ble_eq_true rfl⟩
  have z5 := va_cwS (R := rmX7_member) (rm := rmJ13_bitCount_95d88) (mc := 0) (ms := 0) 1 hts gX7_member_J13_bitCount_95d88 rfl rfl rfl (by decide +kernel) ⟨Nat.le_of_ble_eq_true rfl, Nat.le_of_ble_eq_true rfl⟩
  unfold fX7_member at hf
  obtain ⟨H, eH⟩ : ∃ z, z = s.heap := ⟨_, rfl⟩
  obtain ⟨locs, eL⟩ : ∃ z : List Loc, z = [] := ⟨_, rfl⟩
  have hP : va_P D vwCl [(a_this, .inr (7, [.ref a_slots, .ref a_script, .ref a_history, .ref a_sums, .ref a_addend, .ref a_grids, .ref a_pairings, .ref a_swellings, .ref a_smallestSets])), (a_slots, .inl (cL, 4, .inr (.inl g_slots)))] H := by rw [eH]; exact hP
  have hS : va_S A s.heap H locs := by rw [eH, eL]; exact hS
  suffices hG : W p l e rmX7_member s m ([.ref a_this, .int q1, .int q2] : List Value).toArray below meth c H locs 0 0 (MQ below (cQi D r0 A [(a_this, .inr (7, [.ref a_slots, .ref a_script, .ref a_history, .ref a_sums, .ref a_addend, .ref a_grids, .ref a_pairings, .ref a_swellings, .ref a_smallestSets])), (a_slots, .inl (cL, 4, .inr (.inl g_slots)))]) ([.ref a_this, .int q1, .int q2] : List Value).toArray s 0 0 A) (F0 m 0 ls []) by rw [eH, eL] at hG; exact hG
  refine lv_iload_n hx hb dX7_member_0 rfl (lv_at hl 1 rfl) ?_
  obtain ⟨u1, hu1, hf⟩ := bd_some hf
  refine caSI (rest := []) (As := [.int q1]) (wr := [(a_this, .inr (7, [.ref a_slots, .ref a_script, .ref a_history, .ref a_sums, .ref a_addend, .ref a_grids, .ref a_pairings, .ref a_swellings, .ref a_smallestSets])), (a_slots, .inl (cL, 4, .inr (.inl g_slots)))]) (wo := [(a_this, .inr (7, [.ref a_slots, .ref a_script, .ref a_history, .ref a_sums, .ref a_addend, .ref a_grids, .ref a_pairings, .ref a_swellings, .ref a_smallestSets])), (a_slots, .inl (cL, 4, .inr (.inl g_slots)))]) ⟨hx, hb, hml, hown, hts⟩ hN hP hD hS hA (cX7_isSlot_ct l D cI cL cC cZ q1 u1 hu1) z1 [] [0, 1] [0, 1] rfl (by decide) rfl (by decide) (by decide) rfl (by decide) rfl hl.1 rfl (Nat.le_of_ble_eq_true rfl) dX7_member_1 ⟨Nat.zero_le _, Nat.zero_le _⟩ (fun H locs hP hD hS => ?_)
  refine lv_if_eq (tgt := 12) hx hb dX7_member_4 (by decide) (fun c2 => ?_) (fun c2 => ?_)
  · have hf := br_pos c2 hf
    refine lv_iconst (v := -1) hx hb dX7_member_12 (by decide) ?_
    have hE : (-1 : Int32) = r0 := Option.some.inj hf
    subst hE
    exact rtI hx hb hr hlk hP hD hS dX7_member_13
  · have hf := br_neg c2 hf
    refine lv_iload_n hx hb dX7_member_7 rfl (lv_at hl 2 rfl) ?_
    refine lv_iconst (v := -1) hx hb dX7_member_8 (by decide) ?_
    refine lv_icmp_ge (tgt := 14) hx hb dX7_member_9 (by decide) (fun c3 => ?_) (fun c3 => ?_)
    · have hf := br_pos c3 hf
      refine lv_iload_n hx hb dX7_member_14 rfl (lv_at hl 2 rfl) ?_
      refine lv_iconst (v := -1) hx hb dX7_member_15 (by decide) ?_
      refine lv_icmp_ne (tgt := 31) hx hb dX7_member_16 (by decide) (fun c4 => ?_) (fun c4 => ?_)
      · have hf := br_neg c4 hf
        refine lv_aload_n hx hb dX7_member_31 rfl (lv_at hl 0 rfl) ?_
        refine va_get (D := D) (ci := 7) (v := .ref a_slots) (C := RX7) (T := TX7) (N := 9) hx hb hts z2 hown hN.1 hP 0 rfl rfl 0 (by decide) z3 (fun _ h9 => h9) rfl dX7_member_32 ?_
        refine lv_iload_n hx hb dX7_member_35 rfl (lv_at hl 1 rfl) ?_
        obtain ⟨c5, hf⟩ := gd_some hf
        refine va_lald hx hb hN.1 hP 1 1 rfl rfl (ix_in c5) dX7_member_36 ?_
        refine lv_iload_n hx hb dX7_member_37 rfl (lv_at hl 2 rfl) ?_
        obtain ⟨u6, hu6, hf⟩ := bd_some hf
        refine caSI (rest := []) (As := [.long (g_slots q1.toNatClampNeg), .int q2]) (wr := [(a_this, .inr (7, [.ref a_slots, .ref a_script, .ref a_history, .ref a_sums, .ref a_addend, .ref a_grids, .ref a_pairings, .ref a_swellings, .ref a_smallestSets])), (a_slots, .inl (cL, 4, .inr (.inl g_slots)))]) (wo := [(a_this, .inr (7, [.ref a_slots, .ref a_script, .ref a_history, .ref a_sums, .ref a_addend, .ref a_grids, .ref a_pairings, .ref a_swellings, .ref a_smallestSets])), (a_slots, .inl (cL, 4, .inr (.inl g_slots)))]) ⟨hx, hb, hml, hown, hts⟩ hN hP hD hS hA (cX7_numberAt_ct l D cI cL cC cZ (g_slots q1.toNatClampNeg) q2 u6 hu6) z4 [] [0, 1] [0, 1] rfl (by decide) rfl (by decide) (by decide) rfl (by decide) rfl hl.1 rfl (Nat.le_of_ble_eq_true rfl) dX7_member_38 ⟨Nat.zero_le _, Nat.zero_le _⟩ (fun H locs hP hD hS => ?_)
        have hE : u6 = r0 := Option.some.inj hf
        subst hE
        exact rtI hx hb hr hlk hP hD hS dX7_member_41
      · have hf := br_pos c4 hf
        refine lv_aload_n hx hb dX7_member_19 rfl (lv_at hl 0 rfl) ?_
        refine va_get (D := D) (ci := 7) (v := .ref a_slots) (C := RX7) (T := TX7) (N := 9) hx hb hts z2 hown hN.1 hP 0 rfl rfl 0 (by decide) z3 (fun _ h9 => h9) rfl dX7_member_20 ?_
        refine lv_iload_n hx hb dX7_member_23 rfl (lv_at hl 1 rfl) ?_
        obtain ⟨c7, hf⟩ := gd_some hf
        refine va_lald hx hb hN.1 hP 1 1 rfl rfl (ix_in c7) dX7_member_24 ?_
        obtain ⟨u8, hu8, hf⟩ := bd_some hf
        refine caSI (rest := []) (As := [.long (g_slots q1.toNatClampNeg)]) (wr := [(a_this, .inr (7, [.ref a_slots, .ref a_script, .ref a_history, .ref a_sums, .ref a_addend, .ref a_grids, .ref a_pairings, .ref a_swellings, .ref a_smallestSets])), (a_slots, .inl (cL, 4, .inr (.inl g_slots)))]) (wo := [(a_this, .inr (7, [.ref a_slots, .ref a_script, .ref a_history, .ref a_sums, .ref a_addend, .ref a_grids, .ref a_pairings, .ref a_swellings, .ref a_smallestSets])), (a_slots, .inl (cL, 4, .inr (.inl g_slots)))]) ⟨hx, hb, hml, hown, hts⟩ hN hP hD hS hA (cJ13_bitCount_95d88_ct l D cI cL cC cZ (g_slots q1.toNatClampNeg) u8 hu8) z5 [] [0, 1] [0, 1] rfl (by decide) rfl (by decide) (by decide) rfl (by decide) rfl hl.1 rfl (Nat.le_of_ble_eq_true rfl) dX7_member_25 ⟨Nat.zero_le _, Nat.zero_le _⟩ (fun H locs hP hD hS => ?_)
        refine lv_goto (tgt := 41) hx hb dX7_member_28 (by decide) ?_
        have hE : u8 = r0 := Option.some.inj hf
        subst hE
        exact rtI hx hb hr hlk hP hD hS dX7_member_41
    · have hf := br_neg c3 hf
      refine lv_iconst (v := -1) hx hb dX7_member_12 (by decide) ?_
      have hE : (-1 : Int32) = r0 := Option.some.inj hf
      subst hE
      exact rtI hx hb hr hlk hP hD hS dX7_member_13
abbrev rmX7_sum : Room := { frames := 5, cells := 0, slots := 0, locals := 113 }
noncomputable def fX7_sum (q1 : Int32) (q2 : Int32) (q3 : Int32) (g_slots : Nat → Int64) (g_sums_words : Nat → Int64) (g_addend_words : Nat → Int64) : Option (Int32 × (Nat → Int64) × (Nat → Int64)) := bd (fX7_isSlot q1) (fun u1 => br (u1 = 0) (some (((-1 : Int32), g_sums_words, g_addend_words))) (bd (fX7_isSlot q2) (fun u3 => br (u3 = 0) (some (((-1 : Int32), g_sums_words, g_addend_words))) (br ((-1 : Int32) ≤ q3) (gd (¬ q1 < 0 ∧ q1.toNatClampNeg < 4) (gd (¬ q2 < 0 ∧ q2.toNatClampNeg < 4) (bd (fX7_findSums (g_slots q1.toNatClampNeg) (g_slots q2.toNatClampNeg) g_sums_words g_addend_words) (fun u8 => br (q3 = (-1 : Int32)) (bd (fX6_size u8.1) (fun u11 => some ((u11, u8.1, u8.2)))) (bd (fX6_numberAtPlace q3 u8.1) (fun u10 => some ((u10, u8.1, u8.2)))))))) (some (((-1 : Int32), g_sums_words, g_addend_words)))))))
set_option maxHeartbeats 4000000 in
set_option maxRecDepth 100000 in
theorem cX7_sum_ct (l : Launch) (D : va_G) (cI cL cC cZ : ClassId) (a_this a_slots a_script a_history a_sums a_addend a_grids a_pairings a_swellings a_smallestSets a_sums_words a_addend_words : Nat) (g_slots : Nat → Int64) (g_sums_words : Nat → Int64) (g_addend_words : Nat → Int64) (q1 : Int32) (q2 : Int32) (q3 : Int32) (r0 : Int32) (v_sums_words : Nat → Int64) (v_addend_words : Nat → Int64) (hf : fX7_sum q1 q2 q3 g_slots g_sums_words g_addend_words = some ((r0, v_sums_words, v_addend_words))) : CtI l yX7_sum wsX7_sum rmX7_sum D (tyz cI cL cC cZ) [.ref a_this, .int q1, .int q2, .int q3] [(a_this, .inr (7, [.ref a_slots, .ref a_script, .ref a_history, .ref a_sums, .ref a_addend, .ref a_grids, .ref a_pairings, .ref a_swellings, .ref a_smallestSets])), (a_slots, .inl (cL, 4, .inr (.inl g_slots))), (a_sums, .inr (6, [.ref a_sums_words])), (a_sums_words, .inl (cL, 4, .inr (.inl g_sums_words))), (a_addend, .inr (6, [.ref a_addend_words])), (a_addend_words, .inl (cL, 4, .inr (.inl g_addend_words)))] [(a_this, .inr (7, [.ref a_slots, .ref a_script, .ref a_history, .ref a_sums, .ref a_addend, .ref a_grids, .ref a_pairings, .ref a_swellings, .ref a_smallestSets])), (a_slots, .inl (cL, 4, .inr (.inl g_slots))), (a_sums, .inr (6, [.ref a_sums_words])), (a_sums_words, .inl (cL, 4, .inr (.inl v_sums_words))), (a_addend, .inr (6, [.ref a_addend_words])), (a_addend_words, .inl (cL, 4, .inr (.inl v_addend_words)))] r0 := by
  refine CtI.make (cc := cX7_sum) (maxL := 4) (ty := .int) (by decide) rfl (Nat.le_of_ble_eq_true rfl) ?_
  intro p e s m below meth c A ls C0 hN hA hP hD hl
  obtain ⟨hx, hb, hr, hml, hown, hts, hlk⟩ := id C0
  have hown : s.vm.findClass RX7 = some m.cls := hown
  have hS : va_S A s.heap s.heap [] := va_S.rf
  have hP : va_P D vwCl [(a_this, .inr (7, [.ref a_slots, .ref a_script, .ref a_history, .ref a_sums, .ref a_addend, .ref a_grids, .ref a_pairings, .ref a_swellings, .ref a_smallestSets])), (a_slots, .inl (cL, 4, .inr (.inl g_slots))), (a_sums, .inr (6, [.ref a_sums_words])), (a_sums_words, .inl (cL, 4, .inr (.inl g_sums_words))), (a_addend, .inr (6, [.ref a_addend_words])), (a_addend_words, .inl (cL, 4, .inr (.inl g_addend_words)))] s.heap := hP
  have hD : va_D A [(a_this, .inr (7, [.ref a_slots, .ref a_script, .ref a_history, .ref a_sums, .ref a_addend, .ref a_grids, .ref a_pairings, .ref a_swellings, .ref a_smallestSets])), (a_slots, .inl (cL, 4, .inr (.inl g_slots))), (a_sums, .inr (6, [.ref a_sums_words])), (a_sums_words, .inl (cL, 4, .inr (.inl g_sums_words))), (a_addend, .inr (6, [.ref a_addend_words])), (a_addend_words, .inl (cL, 4, .inr (.inl g_addend_words)))] := hD
  have hl : lv_has ls 4 [(0, .ref a_this), (1, .int q1), (2, .int q2), (3, .int q3)] := hl
  have z1 := va_cwS (R := rmX7_sum) (rm := rmX7_isSlot) (mc := 0) (ms := 0) 1 hts gX7_sum_X7_isSlot rfl rfl rfl (by decide +kernel) ⟨Nat.le_of_ble_eq_true rfl, Nat.le_of_ble_eq_true rfl⟩
  have z2 : ∀ w ∈ u_ws RX7 TX7 9, w ∈ wsX7_sum := by decide +kernel
  have z3 := hts (.fieldLink RX7 9 "LittleSums" "slots" "[J") (by decide +kernel)
  have z4 := cwV (R := rmX7_sum) (rm := rmX7_findSums) (mc := 0) (ms := 0) 2 hts gX7_sum_X7_findSums rfl rfl rfl (by decide +kernel) ⟨Nat.le_of_ble_eq_true rfl, Nat.le_of_ble_eq_true rfl⟩
  have z5 := hts (.fieldLink RX7 30 "LittleSums" "sums" "LLittleSums$Wide;") (by decide +kernel)
  have z6 := cwV (R := rmX7_sum) (rm := rmX6_numberAtPlace) (mc := 0) (ms := 0) 1 hts gX7_sum_X6_numberAtPlace rfl rfl rfl (by decide +kernel) ⟨Nat.le_of_ble_eq_true rfl, Nat.le_of_ble_eq_true rfl⟩
  have z7 := cwV (R := rmX7_sum) (rm := rmX6_size) (mc := 0) (ms := 0) 0 hts gX7_sum_X6_size rfl rfl rfl (by decide +kernel) ⟨Nat.le_of_ble_eq_true rfl, Nat.le_of_ble_eq_true rfl⟩
  unfold fX7_sum at hf
  obtain ⟨H, eH⟩ : ∃ z, z = s.heap := ⟨_, rfl⟩
  obtain ⟨locs, eL⟩ : ∃ z : List Loc, z = [] := ⟨_, rfl⟩
  have hP : va_P D vwCl [(a_this, .inr (7, [.ref a_slots, .ref a_script, .ref a_history, .ref a_sums, .ref a_addend, .ref a_grids, .ref a_pairings, .ref a_swellings, .ref a_smallestSets])), (a_slots, .inl (cL, 4, .inr (.inl g_slots))), (a_sums, .inr (6, [.ref a_sums_words])), (a_sums_words, .inl (cL, 4, .inr (.inl g_sums_words))), (a_addend, .inr (6, [.ref a_addend_words])), (a_addend_words, .inl (cL, 4, .inr (.inl g_addend_words)))] H := by rw [eH]; exact hP
  have hS : va_S A s.heap H locs := by rw [eH, eL]; exact hS
  suffices hG : W p l e rmX7_sum s m ([.ref a_this, .int q1, .int q2, .int q3] : List Value).toArray below meth c H locs 0 0 (MQ below (cQi D r0 A [(a_this, .inr (7, [.ref a_slots, .ref a_script, .ref a_history, .ref a_sums, .ref a_addend, .ref a_grids, .ref a_pairings, .ref a_swellings, .ref a_smallestSets])), (a_slots, .inl (cL, 4, .inr (.inl g_slots))), (a_sums, .inr (6, [.ref a_sums_words])), (a_sums_words, .inl (cL, 4, .inr (.inl v_sums_words))), (a_addend, .inr (6, [.ref a_addend_words])), (a_addend_words, .inl (cL, 4, .inr (.inl v_addend_words)))]) ([.ref a_this, .int q1, .int q2, .int q3] : List Value).toArray s 0 0 A) (F0 m 0 ls []) by rw [eH, eL] at hG; exact hG
  refine lv_iload_n hx hb dX7_sum_0 rfl (lv_at hl 1 rfl) ?_
  obtain ⟨u1, hu1, hf⟩ := bd_some hf
  refine caSI (rest := []) (As := [.int q1]) (wr := [(a_this, .inr (7, [.ref a_slots, .ref a_script, .ref a_history, .ref a_sums, .ref a_addend, .ref a_grids, .ref a_pairings, .ref a_swellings, .ref a_smallestSets])), (a_slots, .inl (cL, 4, .inr (.inl g_slots))), (a_sums, .inr (6, [.ref a_sums_words])), (a_sums_words, .inl (cL, 4, .inr (.inl g_sums_words))), (a_addend, .inr (6, [.ref a_addend_words])), (a_addend_words, .inl (cL, 4, .inr (.inl g_addend_words)))]) (wo := [(a_this, .inr (7, [.ref a_slots, .ref a_script, .ref a_history, .ref a_sums, .ref a_addend, .ref a_grids, .ref a_pairings, .ref a_swellings, .ref a_smallestSets])), (a_slots, .inl (cL, 4, .inr (.inl g_slots))), (a_sums, .inr (6, [.ref a_sums_words])), (a_sums_words, .inl (cL, 4, .inr (.inl g_sums_words))), (a_addend, .inr (6, [.ref a_addend_words])), (a_addend_words, .inl (cL, 4, .inr (.inl g_addend_words)))]) ⟨hx, hb, hml, hown, hts⟩ hN hP hD hS hA (cX7_isSlot_ct l D cI cL cC cZ q1 u1 hu1) z1 [] [0, 1, 2, 3, 4, 5] [0, 1, 2, 3, 4, 5] rfl (by decide) rfl (by decide) (by decide) rfl (by decide) rfl hl.1 rfl (Nat.le_of_ble_eq_true rfl) dX7_sum_1 ⟨Nat.zero_le _, Nat.zero_le _⟩ (fun H locs hP hD hS => ?_)
  refine lv_if_eq (tgt := 19) hx hb dX7_sum_4 (by decide) (fun c2 => ?_) (fun c2 => ?_)
  · have hf := br_pos c2 hf
    refine lv_iconst (v := -1) hx hb dX7_sum_19 (by decide) ?_
    have hE : ((-1 : Int32), g_sums_words, g_addend_words) = (r0, v_sums_words, v_addend_words) := Option.some.inj hf
    simp only [Prod.mk.injEq] at hE
    obtain ⟨rfl, rfl, rfl⟩ := hE
    exact rtI hx hb hr hlk hP hD hS dX7_sum_20
  · have hf := br_neg c2 hf
    refine lv_iload_n hx hb dX7_sum_7 rfl (lv_at hl 2 rfl) ?_
    obtain ⟨u3, hu3, hf⟩ := bd_some hf
    refine caSI (rest := []) (As := [.int q2]) (wr := [(a_this, .inr (7, [.ref a_slots, .ref a_script, .ref a_history, .ref a_sums, .ref a_addend, .ref a_grids, .ref a_pairings, .ref a_swellings, .ref a_smallestSets])), (a_slots, .inl (cL, 4, .inr (.inl g_slots))), (a_sums, .inr (6, [.ref a_sums_words])), (a_sums_words, .inl (cL, 4, .inr (.inl g_sums_words))), (a_addend, .inr (6, [.ref a_addend_words])), (a_addend_words, .inl (cL, 4, .inr (.inl g_addend_words)))]) (wo := [(a_this, .inr (7, [.ref a_slots, .ref a_script, .ref a_history, .ref a_sums, .ref a_addend, .ref a_grids, .ref a_pairings, .ref a_swellings, .ref a_smallestSets])), (a_slots, .inl (cL, 4, .inr (.inl g_slots))), (a_sums, .inr (6, [.ref a_sums_words])), (a_sums_words, .inl (cL, 4, .inr (.inl g_sums_words))), (a_addend, .inr (6, [.ref a_addend_words])), (a_addend_words, .inl (cL, 4, .inr (.inl g_addend_words)))]) ⟨hx, hb, hml, hown, hts⟩ hN hP hD hS hA (cX7_isSlot_ct l D cI cL cC cZ q2 u3 hu3) z1 [] [0, 1, 2, 3, 4, 5] [0, 1, 2, 3, 4, 5] rfl (by decide) rfl (by decide) (by decide) rfl (by decide) rfl hl.1 rfl (Nat.le_of_ble_eq_true rfl) dX7_sum_8 ⟨Nat.zero_le _, Nat.zero_le _⟩ (fun H locs hP hD hS => ?_)
    refine lv_if_eq (tgt := 19) hx hb dX7_sum_11 (by decide) (fun c4 => ?_) (fun c4 => ?_)
    · have hf := br_pos c4 hf
      refine lv_iconst (v := -1) hx hb dX7_sum_19 (by decide) ?_
      have hE : ((-1 : Int32), g_sums_words, g_addend_words) = (r0, v_sums_words, v_addend_words) := Option.some.inj hf
      simp only [Prod.mk.injEq] at hE
      obtain ⟨rfl, rfl, rfl⟩ := hE
      exact rtI hx hb hr hlk hP hD hS dX7_sum_20
    · have hf := br_neg c4 hf
      refine lv_iload_n hx hb dX7_sum_14 rfl (lv_at hl 3 rfl) ?_
      refine lv_iconst (v := -1) hx hb dX7_sum_15 (by decide) ?_
      refine lv_icmp_ge (tgt := 21) hx hb dX7_sum_16 (by decide) (fun c5 => ?_) (fun c5 => ?_)
      · have hf := br_pos c5 hf
        refine lv_aload_n hx hb dX7_sum_21 rfl (lv_at hl 0 rfl) ?_
        refine lv_aload_n hx hb dX7_sum_22 rfl (lv_at hl 0 rfl) ?_
        refine va_get (D := D) (ci := 7) (v := .ref a_slots) (C := RX7) (T := TX7) (N := 9) hx hb hts z2 hown hN.1 hP 0 rfl rfl 0 (by decide) z3 (fun _ h9 => h9) rfl dX7_sum_23 ?_
        refine lv_iload_n hx hb dX7_sum_26 rfl (lv_at hl 1 rfl) ?_
        obtain ⟨c6, hf⟩ := gd_some hf
        refine va_lald hx hb hN.1 hP 1 1 rfl rfl (ix_in c6) dX7_sum_27 ?_
        refine lv_aload_n hx hb dX7_sum_28 rfl (lv_at hl 0 rfl) ?_
        refine va_get (D := D) (ci := 7) (v := .ref a_slots) (C := RX7) (T := TX7) (N := 9) hx hb hts z2 hown hN.1 hP 0 rfl rfl 0 (by decide) z3 (fun _ h9 => h9) rfl dX7_sum_29 ?_
        refine lv_iload_n hx hb dX7_sum_32 rfl (lv_at hl 2 rfl) ?_
        obtain ⟨c7, hf⟩ := gd_some hf
        refine va_lald hx hb hN.1 hP 1 1 rfl rfl (ix_in c7) dX7_sum_33 ?_
        obtain ⟨u8, hu8, hf⟩ := bd_some hf
        refine caVV (rest := []) (As := [.long (g_slots q1.toNatClampNeg), .long (g_slots q2.toNatClampNeg)]) (wr := [(a_slots, .inl (cL, 4, .inr (.inl g_slots)))]) (wo := [(a_this, .inr (7, [.ref a_slots, .ref a_script, .ref a_history, .ref a_sums, .ref a_addend, .ref a_grids, .ref a_pairings, .ref a_swellings, .ref a_smallestSets])), (a_slots, .inl (cL, 4, .inr (.inl g_slots))), (a_sums, .inr (6, [.ref a_sums_words])), (a_sums_words, .inl (cL, 4, .inr (.inl u8.1))), (a_addend, .inr (6, [.ref a_addend_words])), (a_addend_words, .inl (cL, 4, .inr (.inl u8.2)))]) ⟨hx, hb, hml, hown, hts⟩ hN hP hD hS hA (cX7_findSums_ct l D cI cL cC cZ a_this a_slots a_script a_history a_sums a_addend a_grids a_pairings a_swellings a_smallestSets a_sums_words a_addend_words g_sums_words g_addend_words (g_slots q1.toNatClampNeg) (g_slots q2.toNatClampNeg) u8.1 u8.2 hu8) z4 0 7 rfl rfl [0, 2, 3, 4, 5] [1] [1, 0, 2, 3, 4, 5] rfl (by decide) rfl (by decide) (by decide) rfl (by decide) rfl hl.1 rfl (Nat.le_of_ble_eq_true rfl) dX7_sum_34 ⟨Nat.zero_le _, Nat.zero_le _⟩ (fun H locs hP hD hS => ?_)
        refine lv_iload_n hx hb dX7_sum_37 rfl (lv_at hl 3 rfl) ?_
        refine lv_iconst (v := -1) hx hb dX7_sum_38 (by decide) ?_
        refine lv_icmp_ne (tgt := 52) hx hb dX7_sum_39 (by decide) (fun c9 => ?_) (fun c9 => ?_)
        · have hf := br_neg c9 hf
          refine lv_aload_n hx hb dX7_sum_52 rfl (lv_at hl 0 rfl) ?_
          refine va_get (D := D) (ci := 7) (v := .ref a_sums) (C := RX7) (T := TX7) (N := 9) hx hb hts z2 hown hN.1 hP 0 rfl rfl 3 (by decide) z5 (fun _ h9 => h9) rfl dX7_sum_53 ?_
          refine lv_iload_n hx hb dX7_sum_56 rfl (lv_at hl 3 rfl) ?_
          obtain ⟨u10, hu10, hf⟩ := bd_some hf
          refine caVI (rest := []) (As := [.int q3]) (wr := [(a_this, .inr (7, [.ref a_slots, .ref a_script, .ref a_history, .ref a_sums, .ref a_addend, .ref a_grids, .ref a_pairings, .ref a_swellings, .ref a_smallestSets])), (a_slots, .inl (cL, 4, .inr (.inl g_slots))), (a_addend, .inr (6, [.ref a_addend_words])), (a_addend_words, .inl (cL, 4, .inr (.inl u8.2)))]) (wo := [(a_this, .inr (7, [.ref a_slots, .ref a_script, .ref a_history, .ref a_sums, .ref a_addend, .ref a_grids, .ref a_pairings, .ref a_swellings, .ref a_smallestSets])), (a_slots, .inl (cL, 4, .inr (.inl g_slots))), (a_sums, .inr (6, [.ref a_sums_words])), (a_sums_words, .inl (cL, 4, .inr (.inl u8.1))), (a_addend, .inr (6, [.ref a_addend_words])), (a_addend_words, .inl (cL, 4, .inr (.inl u8.2)))]) ⟨hx, hb, hml, hown, hts⟩ hN hP hD hS hA (cX6_numberAtPlace_ct l D cI cL cC cZ a_sums a_sums_words u8.1 q3 u10 hu10) z6 2 6 rfl rfl [2, 3] [0, 1, 4, 5] [0, 1, 4, 5, 2, 3] rfl (by decide) rfl (by decide) (by decide) rfl (by decide) rfl hl.1 rfl (Nat.le_of_ble_eq_true rfl) dX7_sum_57 ⟨Nat.zero_le _, Nat.zero_le _⟩ (fun H locs hP hD hS => ?_)
          have hE : (u10, u8.1, u8.2) = (r0, v_sums_words, v_addend_words) := Option.some.inj hf
          simp only [Prod.mk.injEq] at hE
          obtain ⟨rfl, rfl, rfl⟩ := hE
          exact rtI hx hb hr hlk hP hD hS dX7_sum_60
        · have hf := br_pos c9 hf
          refine lv_aload_n hx hb dX7_sum_42 rfl (lv_at hl 0 rfl) ?_
          refine va_get (D := D) (ci := 7) (v := .ref a_sums) (C := RX7) (T := TX7) (N := 9) hx hb hts z2 hown hN.1 hP 0 rfl rfl 3 (by decide) z5 (fun _ h9 => h9) rfl dX7_sum_43 ?_
          obtain ⟨u11, hu11, hf⟩ := bd_some hf
          refine caVI (rest := []) (As := []) (wr := [(a_this, .inr (7, [.ref a_slots, .ref a_script, .ref a_history, .ref a_sums, .ref a_addend, .ref a_grids, .ref a_pairings, .ref a_swellings, .ref a_smallestSets])), (a_slots, .inl (cL, 4, .inr (.inl g_slots))), (a_addend, .inr (6, [.ref a_addend_words])), (a_addend_words, .inl (cL, 4, .inr (.inl u8.2)))]) (wo := [(a_this, .inr (7, [.ref a_slots, .ref a_script, .ref a_history, .ref a_sums, .ref a_addend, .ref a_grids, .ref a_pairings, .ref a_swellings, .ref a_smallestSets])), (a_slots, .inl (cL, 4, .inr (.inl g_slots))), (a_sums, .inr (6, [.ref a_sums_words])), (a_sums_words, .inl (cL, 4, .inr (.inl u8.1))), (a_addend, .inr (6, [.ref a_addend_words])), (a_addend_words, .inl (cL, 4, .inr (.inl u8.2)))]) ⟨hx, hb, hml, hown, hts⟩ hN hP hD hS hA (cX6_size_ct l D cI cL cC cZ a_sums a_sums_words u8.1 u11 hu11) z7 2 6 rfl rfl [2, 3] [0, 1, 4, 5] [0, 1, 4, 5, 2, 3] rfl (by decide) rfl (by decide) (by decide) rfl (by decide) rfl hl.1 rfl (Nat.le_of_ble_eq_true rfl) dX7_sum_46 ⟨Nat.zero_le _, Nat.zero_le _⟩ (fun H locs hP hD hS => ?_)
          refine lv_goto (tgt := 60) hx hb dX7_sum_49 (by decide) ?_
          have hE : (u11, u8.1, u8.2) = (r0, v_sums_words, v_addend_words) := Option.some.inj hf
          simp only [Prod.mk.injEq] at hE
          obtain ⟨rfl, rfl, rfl⟩ := hE
          exact rtI hx hb hr hlk hP hD hS dX7_sum_60
      · have hf := br_neg c5 hf
        refine lv_iconst (v := -1) hx hb dX7_sum_19 (by decide) ?_
        have hE : ((-1 : Int32), g_sums_words, g_addend_words) = (r0, v_sums_words, v_addend_words) := Option.some.inj hf
        simp only [Prod.mk.injEq] at hE
        obtain ⟨rfl, rfl, rfl⟩ := hE
        exact rtI hx hb hr hlk hP hD hS dX7_sum_20
