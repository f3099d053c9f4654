/-! the record of changes -/
theorem RS.congr {sl sl2 : Nat → Int64} {nw nw2 : Nat → Int32} (h : RS sl nw) (h1 : ∀ k, k < 4 → sl2 k = sl k) (h2 : ∀ i, i < 164 → nw2 i = nw i) : RS sl2 nw2 := by
  intro k hk
  refine ⟨fun v hv => ?_, fun v hv => ?_⟩
  · rw [h2 _ (by omega), h1 k hk]; exact (h k hk).1 v hv
  · rw [h1 k hk]; exact (h k hk).2 v hv
theorem RS.bz {sl : Nat → Int64} {nw : Nat → Int32} (h : RS sl nw) {i : Nat} (hi : i < 164) : nw i = 0 ∨ nw i = 1 := by
  have e := (h (i / 41) (by omega)).1 (i % 41) (by omega)
  rw [show 41 * (i / 41) + i % 41 = i by omega] at e
  rw [e]
  by_cases hb : bi (sl (i / 41)) (i % 41) = true
  · rw [if_pos hb]; exact Or.inr rfl
  · rw [if_neg hb]; exact Or.inl rfl
theorem nar_z {v : Int32} (h : v = 0 ∨ v = 1) : vp_nar .boolean v = v := by rcases h with rfl | rfl <;> rfl
theorem note50 {sl : Nat → Int64} {nw mb : Nat → Int32} (h : RS sl nw) {n : Nat} (hn : n < 6) : bX8_note_50 (nI n) nw mb = some (nI (n + 1), fb_put mb nw (164 * n) 164) := by
  unfold bX8_note_50
  have e0 : ((0 : Int32), mb) = (fun i => (nI i, fb_put mb nw (164 * n) i)) 0 := by
    show ((0 : Int32), mb) = (nI 0, fb_put mb nw (164 * n) 0)
    rw [fb_put_0]; rfl
  rw [e0]
  refine run_all (step := sX8_note_52 (nI n) nw) 164 (fun i => (nI i, fb_put mb nw (164 * n) i)) _ ?_ ?_
  · intro i hi
    show bX8_note_52 (nI n) nw (nI i) (fb_put mb nw (164 * n) i) = _
    unfold bX8_note_52 lt_
    simp (disch := omega) only [lit, nI_add, pk_mul, nI_leI, nI_ltI, nI_clamp]
    rw [brF (by omega), gd_eq (by omega), gd_eq (by omega), nar_z (h.bz hi), fb_put_succ]
  · show bX8_note_52 (nI n) nw (nI 164) (fb_put mb nw (164 * n) 164) = _
    unfold bX8_note_52 lt_
    rw [brT (by decide), show nI n + 1 = nI (n + 1) from nI_1 n]
theorem note11 {sl : Nat → Int64} {nw mb : Nat → Int32} (h : RS sl nw) (hz : ∀ i, 164 ≤ i → i < 984 → mb i = 0 ∨ mb i = 1) : fX8_note (nI 6) nw mb = some (nI 6, fb_put (fb_put mb (fun k => mb (164 + k)) 0 820) nw 820 164) := by
  unfold fX8_note
  rw [brT (by decide)]
  have e0 : ((0 : Int32), mb) = (fun i => (nI i, fb_put mb (fun k => mb (164 + k)) 0 i)) 0 := by
    show ((0 : Int32), mb) = (nI 0, fb_put mb (fun k => mb (164 + k)) 0 0)
    rw [fb_put_0]; rfl
  rw [e0]
  refine run_all (step := sX8_note_11 (nI 6) nw) 820 (fun i => (nI i, fb_put mb (fun k => mb (164 + k)) 0 i)) _ ?_ ?_
  · intro i hi
    show bX8_note_11 (nI 6) nw (nI i) (fb_put mb (fun k => mb (164 + k)) 0 i) = _
    unfold bX8_note_11 lt_
    simp (disch := omega) only [lit, nI_add, pk_mul, nI_leI, nI_ltI, nI_clamp]
    rw [brF (by omega), gd_eq (by omega), gd_eq (by omega), fb_put_out (k := 164 + i) (by omega), nar_z (hz _ (by omega) (by omega))]
    have e := fb_put_succ mb (fun k => mb (164 + k)) 0 i
    rw [Nat.zero_add] at e
    rw [e]
  · show bX8_note_11 (nI 6) nw (nI 820) (fb_put mb (fun k => mb (164 + k)) 0 820) = _
    unfold bX8_note_11 lt_
    rw [brT (by decide), show nI 6 - 1 = nI 5 from by decide]
    show ml (bX8_note_50 (nI 5) nw (fb_put mb (fun k => mb (164 + k)) 0 820)) = _
    rw [note50 h (by omega)]
    rfl
theorem rec_ok {sl : Nat → Int64} {nw ch : Nat → Int32} {bf : Nat → Int64} {sz um : Int32} {mb : Nat → Int32} (hS : RS sl nw) (hH : RH sl ch bf sz mb um) {k : Nat} (hk : k < 4) (x : Int64) :
    ∃ sz2 ch2 bf2 um2 mb2, fX1_keep (nI k) (sl k) sz ch bf = some (sz2, ch2, bf2) ∧ fX8_note um nw mb = some (um2, mb2) ∧ RH (vp_updL sl k x) ch2 bf2 sz2 mb2 um2 := by
  obtain ⟨n, hn, rfl, rfl, st, hst, hj⟩ := hH
  by_cases h6 : n = 6
  · subst h6
    have hz : ∀ i, 164 ≤ i → i < 984 → mb i = 0 ∨ mb i = 1 := by
      intro i h1 h2
      have e := (hj (i / 164) (by omega)).1.bz (i := i % 164) (by omega)
      rw [show 164 * (i / 164) + i % 164 = i by omega] at e
      exact e
    refine ⟨nI 6, upd (va_cpy ch ch 1 0 5) 5 (nI k), vp_updL (va_cpy bf bf 1 0 5) 5 (sl k), nI 6, _, ?_, note11 hS hz, 6, by omega, rfl, rfl, fun j => if j ≤ 5 then st (j + 1) else vp_updL sl k x, ?_, ?_⟩
    · unfold fX1_keep bX1_keep_42
      simp only [lt_]
      rw [brF (by decide), gd_eq (by decide), gd_eq (by decide)]
      rfl
    · intro i hi
      simp only [if_neg (show ¬ (6 ≤ 5) by omega)]
    · intro j hj6
      by_cases h5 : j = 5
      · subst h5
        simp only [if_pos (Nat.le_refl 5), if_neg (show ¬ (5 + 1 ≤ 5) by omega)]
        refine ⟨hS.congr hst (fun i hi => ?_), k, hk, pk_us, ?_, ?_⟩
        · rw [fb_put_in (by omega) (by omega), Nat.add_sub_cancel_left]
        · rw [hst k hk]; exact pk_uLs
        · intro i hi hik
          rw [hst i hi, pk_uLn hik]
      · obtain ⟨r1, c, hc, r2, r3, r4⟩ := hj (j + 1) (by omega)
        simp only [if_pos (show j ≤ 5 by omega), if_pos (show j + 1 ≤ 5 by omega)]
        refine ⟨r1.congr (fun _ _ => rfl) (fun i hi => ?_), c, hc, ?_, ?_, r4⟩
        · rw [fb_put_out (by omega), fb_put_in (by omega) (by omega)]
          congr 1
          omega
        · rw [pk_un h5, pk_cpy_in (by omega) (by omega), ← r2]
          congr 1
          omega
        · rw [pk_uLn h5, pk_cpy_in (by omega) (by omega), ← r3]
          congr 1
          omega
  · have hcl : (nI n).toNatClampNeg = n := nI_clamp (by omega)
    have e8 : fX8_note (nI n) nw mb = some (nI (n + 1), fb_put mb nw (164 * n) 164) := by
      unfold fX8_note
      rw [brF (show ¬ nI n = (6 : Int32) from fun z => h6 ((nI_eq (by omega) (by omega)).mp z))]
      exact note50 hS (by omega)
    refine ⟨nI (n + 1), upd ch n (nI k), vp_updL bf n (sl k), nI (n + 1), _, ?_, e8, n + 1, by omega, rfl, rfl, fun j => if j ≤ n then st j else vp_updL sl k x, ?_, ?_⟩
    · unfold fX1_keep bX1_keep_42
      simp only [lt_]
      rw [brT (show nI n < (6 : Int32) from nI_lt (b := 6) (by omega) (by omega)), hcl, gd_eq ⟨nI_pos (by omega), by omega⟩, gd_eq ⟨nI_pos (by omega), by omega⟩, show nI n + 1 = nI (n + 1) from nI_1 n]
    · intro i hi
      simp only [if_neg (show ¬ (n + 1 ≤ n) by omega)]
    · intro j hjn
      by_cases hjn2 : j = n
      · subst hjn2
        simp only [if_pos (Nat.le_refl j), if_neg (show ¬ (j + 1 ≤ j) by omega)]
        refine ⟨hS.congr hst (fun i hi => ?_), k, hk, pk_us, ?_, ?_⟩
        · rw [fb_put_in (by omega) (by omega), Nat.add_sub_cancel_left]
        · rw [hst k hk]; exact pk_uLs
        · intro i hi hik
          rw [hst i hi, pk_uLn hik]
      · obtain ⟨r1, c, hc, r2, r3, r4⟩ := hj j (by omega)
        simp only [if_pos (show j ≤ n by omega), if_pos (show j + 1 ≤ n by omega)]
        refine ⟨r1.congr (fun _ _ => rfl) (fun i hi => ?_), c, hc, ?_, ?_, r4⟩
        · rw [fb_put_out (by omega)]
        · rw [pk_un hjn2]; exact r2
        · rw [pk_uLn hjn2]; exact r3
