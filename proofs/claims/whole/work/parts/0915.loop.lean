theorem law_gt {L i : Nat} {x : Int32} (ex : x = nI i) (hL : L ≤ 2560) (hi : i ≤ L + 5) (h : L < i + 5) : Int32.ofNat L - 5 < x := by
  have e1 : (Int32.ofNat L - 5).toInt = (L : Int) - 5 := pk_sub_toInt (a := L) (b := 5) (by omega) (by omega)
  rw [Int32.lt_iff_toInt_lt, ex, nI_toInt (by omega), e1]
  omega
set_option maxHeartbeats 8000000 in
theorem law_loop2 {p : Program} {l : Launch} {e : Env} {s : State} {m : MethodId} {below : List Frame} {meth : Method} {c : Code} {D : va_G} {cI cL cC cZ : ClassId} {b L : Nat} {xs : Nat → Int32} (C0 : lw_At p s m meth c b L xs) (hN : kn D (tyz cI cL cC cZ) s) (hL : L ≤ 2560) (Rel : (Nat → Int64) → (Nat → Int32) → Int32 → (Nat → Int32) → (Nat → Int64) → Int32 → Int64 → Int32 → Int32 → Int32 → Int32 → Int32 → Int32 → Int64 → Int64 → Int32 → Int32 → (Nat → Int32) → (Nat → Int32) → Int64 → Int64 → (Nat → Int32) → Int32 → Int32 → Int32 → Int32 → Int32 → Int32 → Int32 → Int32 → (Nat → Int32) → (Nat → Int32) → (Nat → Int32) → Int32 → Prop) (hok : ok_all Rel) {a_x a_x_slots a_x_script a_x_script_letters a_x_script_sets a_x_history a_x_history_changed a_x_history_before a_x_sums a_x_sums_words a_x_addend a_x_addend_words a_x_grids a_x_grids_factors a_x_pairings a_x_pairings_first a_x_pairings_second a_x_pairings_chosen a_x_pairings_there a_x_pairings_back a_x_pairings_uses a_x_pairings_partnerUses a_x_swellings a_x_swellings_numbers a_x_swellings_low a_x_swellings_high a_x_smallestSets a_m a_m_text a_m_now a_m_before a_m_read a_m_first a_m_second a_m_sums a_m_other a_m_grid a_m_order : Nat} : ∀ (n i : Nat), L + 1 ≤ i + n → ∀ (x3 : Int32), x3 = nI i → i ≤ L + 5 → ∀ (H : Heap) (locs : List Loc) (ls : Array Slot), LI Rel D cI cL cC cZ s a_x a_x_slots a_x_script a_x_script_letters a_x_script_sets a_x_history a_x_history_changed a_x_history_before a_x_sums a_x_sums_words a_x_addend a_x_addend_words a_x_grids a_x_grids_factors a_x_pairings a_x_pairings_first a_x_pairings_second a_x_pairings_chosen a_x_pairings_there a_x_pairings_back a_x_pairings_uses a_x_pairings_partnerUses a_x_swellings a_x_swellings_numbers a_x_swellings_low a_x_swellings_high a_x_smallestSets a_m a_m_text a_m_now a_m_before a_m_read a_m_first a_m_second a_m_sums a_m_other a_m_grid a_m_order H locs → lv_has ls 4 [(0, .ref b), (1, .ref a_x), (2, .ref a_m), (3, .int x3)] → W p l e room_1 s m #[Value.ref b] below meth c H locs 39 2798 (lw_Z below #[Value.ref b] s) (F0 m 18 ls []) := by
  obtain ⟨hx, hb, hr, hml, hown, hts, hX, hbl, hlocks, hgv⟩ := id C0
  have hb : c.code = cL_law := hb
  have hbA : ¬ (fun q : Nat => s.heap.size ≤ q) b := Nat.not_le.mpr hbl
  obtain ⟨ok0, ok1, ok2, ok3, ok4, ok5, ok6, ok7, ok8, ok9, ok10, ok11, ok12, ok13, ok14, ok15, ok16, ok17, ok18, ok19, ok20, ok21, ok22, ok23, ok24, ok25⟩ := hok
  intro n
  induction n with
  | zero =>
    intro i hin x3 ex hi5 H locs ls hI hl
    have hS := LI_S hI
    refine lv_iload_n hx hb dL_law_18 rfl (lv_at hl 3 rfl) ?_
    refine lv_aload_n hx hb dL_law_19 rfl (lv_at hl 0 rfl) ?_
    refine va_slen hx hb hX hbl hbA hS dL_law_20 ?_
    refine lv_iconst (v := 5) hx hb dL_law_21 (by decide) ?_
    refine lv_isub hx hb dL_law_22 ?_
    refine lv_icmp_gt (tgt := 996) hx hb dL_law_23 (by decide) (fun cg => ?_) (fun cg => ?_)
    · refine lv_iconst (v := 1) hx hb dL_law_996 (by decide) ?_
      refine va_forget (fun q hq => hS.2.2 q hq) ?_
      refine W.widen (k := 600000) (n := 7302250) (Nat.le_of_ble_eq_true rfl) (Nat.le_of_ble_eq_true rfl) ?_
      exact lw_ret hx hb hr hlocks dL_law_997
    · exact absurd (law_gt (L := L) (i := i) ex (by omega) (by omega) (by omega)) cg
  | succ n ih =>
    intro i hin x3 ex hi5 H locs ls hI hl
    have hS := LI_S hI
    refine lv_iload_n hx hb dL_law_18 rfl (lv_at hl 3 rfl) ?_
    refine lv_aload_n hx hb dL_law_19 rfl (lv_at hl 0 rfl) ?_
    refine va_slen hx hb hX hbl hbA hS dL_law_20 ?_
    refine lv_iconst (v := 5) hx hb dL_law_21 (by decide) ?_
    refine lv_isub hx hb dL_law_22 ?_
    refine lv_icmp_gt (tgt := 996) hx hb dL_law_23 (by decide) (fun cg => ?_) (fun cg => ?_)
    · refine lv_iconst (v := 1) hx hb dL_law_996 (by decide) ?_
      refine va_forget (fun q hq => hS.2.2 q hq) ?_
      refine W.widen (k := 600000) (n := 7302250) (Nat.le_of_ble_eq_true rfl) (Nat.le_of_ble_eq_true rfl) ?_
      exact lw_ret hx hb hr hlocks dL_law_997
    · have hi : i + 5 ≤ L := by
        rcases Nat.lt_or_ge L (i + 5) with q | q
        · exact absurd (law_gt (L := L) (i := i) ex (by omega) (by omega) q) cg
        · exact q
      have h0 : vp_in x3 L := by rw [ex]; exact vp_in_nI (by omega) (by omega)
      have h1 : vp_in (x3 + (1 : Int32)) L := by rw [ex, show (1 : Int32) = nI 1 from rfl, nI_add]; exact vp_in_nI (by omega) (by omega)
      have h2 : vp_in (x3 + (2 : Int32)) L := by rw [ex, show (2 : Int32) = nI 2 from rfl, nI_add]; exact vp_in_nI (by omega) (by omega)
      have h3 : vp_in (x3 + (3 : Int32)) L := by rw [ex, show (3 : Int32) = nI 3 from rfl, nI_add]; exact vp_in_nI (by omega) (by omega)
      have h4 : vp_in (x3 + (4 : Int32)) L := by rw [ex, show (4 : Int32) = nI 4 from rfl, nI_add]; exact vp_in_nI (by omega) (by omega)
      have kk : ∀ (H : Heap) (locs : List Loc), LI Rel D cI cL cC cZ s a_x a_x_slots a_x_script a_x_script_letters a_x_script_sets a_x_history a_x_history_changed a_x_history_before a_x_sums a_x_sums_words a_x_addend a_x_addend_words a_x_grids a_x_grids_factors a_x_pairings a_x_pairings_first a_x_pairings_second a_x_pairings_chosen a_x_pairings_there a_x_pairings_back a_x_pairings_uses a_x_pairings_partnerUses a_x_swellings a_x_swellings_numbers a_x_swellings_low a_x_swellings_high a_x_smallestSets a_m a_m_text a_m_now a_m_before a_m_read a_m_first a_m_second a_m_sums a_m_other a_m_grid a_m_order H locs → W p l e room_1 s m #[Value.ref b] below meth c H locs 39 2798 (lw_Z below #[Value.ref b] s) (F0 m 990 ls []) := by
        intro H locs hI
        obtain ⟨y3, ey3⟩ : ∃ z : Int32, z = x3 + 5 := ⟨_, rfl⟩
        refine lv_iinc (v := y3) (lv' := [(3, .int y3), (0, .ref b), (1, .ref a_x), (2, .ref a_m)]) hx hb dL_law_990 hl (k := 3) rfl (by rw [ey3]; rfl) (by decide) rfl (fun ls hl => ?_)
        refine lv_goto (tgt := 18) hx hb dL_law_993 (by decide) ?_
        exact ih (i + 5) (by omega) y3 (by rw [ey3, ex, show (5 : Int32) = nI 5 from rfl, nI_add]) (by omega) H locs ls hI (lv_sub hl [1, 2, 3, 0] rfl)
      refine lv_aload_n hx hb dL_law_26 rfl (lv_at hl 0 rfl) ?_
      refine lv_iload_n hx hb dL_law_27 rfl (lv_at hl 3 rfl) ?_
      refine va_sld hx hb hX hbl hbA hS h0 dL_law_28 ?_
      refine lv_bipush (v := 31) hx hb dL_law_29 (by decide) ?_
      refine lv_iand hx hb dL_law_31 ?_
      refine lv_topi (fun w ew => ?_)
      rcases Classical.em (w = (0 : Int32)) with c0 | c0
      · refine lv_tableIn (tgt := 152) (off := 120) hx hb dL_law_32 (by rw [c0]; decide) (by rw [c0]; decide) (by rw [c0]; decide) (by decide) ?_
        exact lc_write C0 hN Rel ok0 h1 h2 h3 h4 hI hl kk
      rcases Classical.em (w = (1 : Int32)) with c1 | c1
      · refine lv_tableIn (tgt := 175) (off := 143) hx hb dL_law_32 (by rw [c1]; decide) (by rw [c1]; decide) (by rw [c1]; decide) (by decide) ?_
        exact lc_wipe C0 hN Rel ok1 h1 h2 h3 h4 hI hl kk
      rcases Classical.em (w = (2 : Int32)) with c2 | c2
      · refine lv_tableIn (tgt := 188) (off := 156) hx hb dL_law_32 (by rw [c2]; decide) (by rw [c2]; decide) (by rw [c2]; decide) (by decide) ?_
        exact lc_fault C0 hN Rel ok2 h1 h2 h3 h4 hI hl kk
      rcases Classical.em (w = (3 : Int32)) with c3 | c3
      · refine lv_tableIn (tgt := 201) (off := 169) hx hb dL_law_32 (by rw [c3]; decide) (by rw [c3]; decide) (by rw [c3]; decide) (by decide) ?_
        exact lc_lay C0 hN Rel ok3 h1 h2 h3 h4 hI hl kk
      rcases Classical.em (w = (4 : Int32)) with c4 | c4
      · refine lv_tableIn (tgt := 214) (off := 182) hx hb dL_law_32 (by rw [c4]; decide) (by rw [c4]; decide) (by rw [c4]; decide) (by decide) ?_
        exact lc_put C0 hN Rel ok4 h1 h2 h3 h4 hI hl kk
      rcases Classical.em (w = (5 : Int32)) with c5 | c5
      · refine lv_tableIn (tgt := 247) (off := 215) hx hb dL_law_32 (by rw [c5]; decide) (by rw [c5]; decide) (by rw [c5]; decide) (by decide) ?_
        exact lc_take C0 hN Rel ok5 h1 h2 h3 h4 hI hl kk
      rcases Classical.em (w = (6 : Int32)) with c6 | c6
      · refine lv_tableIn (tgt := 280) (off := 248) hx hb dL_law_32 (by rw [c6]; decide) (by rw [c6]; decide) (by rw [c6]; decide) (by decide) ?_
        exact lc_becomeSums C0 hN Rel ok6 h1 h2 h3 h4 hI hl kk
      rcases Classical.em (w = (7 : Int32)) with c7 | c7
      · refine lv_tableIn (tgt := 323) (off := 291) hx hb dL_law_32 (by rw [c7]; decide) (by rw [c7]; decide) (by rw [c7]; decide) (by decide) ?_
        exact lc_move C0 hN Rel ok7 h1 h2 h3 h4 hI hl kk
      rcases Classical.em (w = (8 : Int32)) with c8 | c8
      · refine lv_tableIn (tgt := 376) (off := 344) hx hb dL_law_32 (by rw [c8]; decide) (by rw [c8]; decide) (by rw [c8]; decide) (by decide) ?_
        exact lc_shrink C0 hN Rel ok8 h1 h2 h3 h4 hI hl kk
      rcases Classical.em (w = (9 : Int32)) with c9 | c9
      · refine lv_tableIn (tgt := 419) (off := 387) hx hb dL_law_32 (by rw [c9]; decide) (by rw [c9]; decide) (by rw [c9]; decide) (by decide) ?_
        exact lc_undo C0 hN Rel ok9 h1 h2 h3 h4 hI hl kk
      rcases Classical.em (w = (10 : Int32)) with c10 | c10
      · refine lv_tableIn (tgt := 432) (off := 400) hx hb dL_law_32 (by rw [c10]; decide) (by rw [c10]; decide) (by rw [c10]; decide) (by decide) ?_
        exact lc_member C0 hN Rel ok10 h1 h2 h3 h4 hI hl kk
      rcases Classical.em (w = (11 : Int32)) with c11 | c11
      · refine lv_tableIn (tgt := 465) (off := 433) hx hb dL_law_32 (by rw [c11]; decide) (by rw [c11]; decide) (by rw [c11]; decide) (by decide) ?_
        exact lc_sum C0 hN Rel ok11 h1 h2 h3 h4 hI hl kk
      rcases Classical.em (w = (12 : Int32)) with c12 | c12
      · refine lv_tableIn (tgt := 508) (off := 476) hx hb dL_law_32 (by rw [c12]; decide) (by rw [c12]; decide) (by rw [c12]; decide) (by decide) ?_
        exact lc_difference C0 hN Rel ok12 h1 h2 h3 h4 hI hl kk
      rcases Classical.em (w = (13 : Int32)) with c13 | c13
      · refine lv_tableIn (tgt := 551) (off := 519) hx hb dL_law_32 (by rw [c13]; decide) (by rw [c13]; decide) (by rw [c13]; decide) (by decide) ?_
        exact lc_times C0 hN Rel ok13 h1 h2 h3 h4 hI hl kk
      rcases Classical.em (w = (14 : Int32)) with c14 | c14
      · refine lv_tableIn (tgt := 584) (off := 552) hx hb dL_law_32 (by rw [c14]; decide) (by rw [c14]; decide) (by rw [c14]; decide) (by decide) ?_
        exact lc_ways C0 hN Rel ok14 h1 h2 h3 h4 hI hl kk
      rcases Classical.em (w = (15 : Int32)) with c15 | c15
      · refine lv_tableIn (tgt := 627) (off := 595) hx hb dL_law_32 (by rw [c15]; decide) (by rw [c15]; decide) (by rw [c15]; decide) (by decide) ?_
        exact lc_energy C0 hN Rel ok15 h1 h2 h3 h4 hI hl kk
      rcases Classical.em (w = (16 : Int32)) with c16 | c16
      · refine lv_tableIn (tgt := 650) (off := 618) hx hb dL_law_32 (by rw [c16]; decide) (by rw [c16]; decide) (by rw [c16]; decide) (by decide) ?_
        exact lc_cover C0 hN Rel ok16 h1 h2 h3 h4 hI hl kk
      rcases Classical.em (w = (17 : Int32)) with c17 | c17
      · refine lv_tableIn (tgt := 683) (off := 651) hx hb dL_law_32 (by rw [c17]; decide) (by rw [c17]; decide) (by rw [c17]; decide) (by decide) ?_
        exact lc_grid C0 hN Rel ok17 h1 h2 h3 h4 hI hl kk
      rcases Classical.em (w = (18 : Int32)) with c18 | c18
      · refine lv_tableIn (tgt := 716) (off := 684) hx hb dL_law_32 (by rw [c18]; decide) (by rw [c18]; decide) (by rw [c18]; decide) (by decide) ?_
        exact lc_alike C0 hN Rel ok18 h1 h2 h3 h4 hI hl kk
      rcases Classical.em (w = (19 : Int32)) with c19 | c19
      · refine lv_tableIn (tgt := 749) (off := 717) hx hb dL_law_32 (by rw [c19]; decide) (by rw [c19]; decide) (by rw [c19]; decide) (by decide) ?_
        exact lc_partner C0 hN Rel ok19 h1 h2 h3 h4 hI hl kk
      rcases Classical.em (w = (20 : Int32)) with c20 | c20
      · refine lv_tableIn (tgt := 792) (off := 760) hx hb dL_law_32 (by rw [c20]; decide) (by rw [c20]; decide) (by rw [c20]; decide) (by decide) ?_
        exact lc_swell C0 hN Rel ok20 h1 h2 h3 h4 hI hl kk
      rcases Classical.em (w = (21 : Int32)) with c21 | c21
      · refine lv_tableIn (tgt := 835) (off := 803) hx hb dL_law_32 (by rw [c21]; decide) (by rw [c21]; decide) (by rw [c21]; decide) (by decide) ?_
        exact lc_floor C0 hN Rel ok21 h1 h2 h3 h4 hI hl kk
      rcases Classical.em (w = (22 : Int32)) with c22 | c22
      · refine lv_tableIn (tgt := 868) (off := 836) hx hb dL_law_32 (by rw [c22]; decide) (by rw [c22]; decide) (by rw [c22]; decide) (by decide) ?_
        exact lc_tight C0 hN Rel ok22 h1 h2 h3 h4 hI hl kk
      rcases Classical.em (w = (23 : Int32)) with c23 | c23
      · refine lv_tableIn (tgt := 901) (off := 869) hx hb dL_law_32 (by rw [c23]; decide) (by rw [c23]; decide) (by rw [c23]; decide) (by decide) ?_
        exact lc_room C0 hN Rel ok23 h1 h2 h3 h4 hI hl kk
      rcases Classical.em (w = (24 : Int32)) with c24 | c24
      · refine lv_tableIn (tgt := 924) (off := 892) hx hb dL_law_32 (by rw [c24]; decide) (by rw [c24]; decide) (by rw [c24]; decide) (by decide) ?_
        exact lc_smallest C0 hN Rel ok24 h1 h2 h3 h4 hI hl kk
      rcases Classical.em (w = (25 : Int32)) with c25 | c25
      · refine lv_tableIn (tgt := 967) (off := 935) hx hb dL_law_32 (by rw [c25]; decide) (by rw [c25]; decide) (by rw [c25]; decide) (by decide) ?_
        exact lc_count C0 hN Rel ok25 h1 h2 h3 h4 hI hl kk
      have n0 := lv_neT (a := 0) c0 (by decide)
      have n1 := lv_neT (a := 1) c1 (by decide)
      have n2 := lv_neT (a := 2) c2 (by decide)
      have n3 := lv_neT (a := 3) c3 (by decide)
      have n4 := lv_neT (a := 4) c4 (by decide)
      have n5 := lv_neT (a := 5) c5 (by decide)
      have n6 := lv_neT (a := 6) c6 (by decide)
      have n7 := lv_neT (a := 7) c7 (by decide)
      have n8 := lv_neT (a := 8) c8 (by decide)
      have n9 := lv_neT (a := 9) c9 (by decide)
      have n10 := lv_neT (a := 10) c10 (by decide)
      have n11 := lv_neT (a := 11) c11 (by decide)
      have n12 := lv_neT (a := 12) c12 (by decide)
      have n13 := lv_neT (a := 13) c13 (by decide)
      have n14 := lv_neT (a := 14) c14 (by decide)
      have n15 := lv_neT (a := 15) c15 (by decide)
      have n16 := lv_neT (a := 16) c16 (by decide)
      have n17 := lv_neT (a := 17) c17 (by decide)
      have n18 := lv_neT (a := 18) c18 (by decide)
      have n19 := lv_neT (a := 19) c19 (by decide)
      have n20 := lv_neT (a := 20) c20 (by decide)
      have n21 := lv_neT (a := 21) c21 (by decide)
      have n22 := lv_neT (a := 22) c22 (by decide)
      have n23 := lv_neT (a := 23) c23 (by decide)
      have n24 := lv_neT (a := 24) c24 (by decide)
      have n25 := lv_neT (a := 25) c25 (by decide)
      refine lv_tableOut (tgt := 990) hx hb dL_law_32 (by omega) (by decide) ?_
      exact kk H locs hI
