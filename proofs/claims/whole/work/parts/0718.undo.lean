theorem core_undo {sl : Nat → Int64} {nw ch : Nat → Int32} {bf : Nat → Int64} {sz um : Int32} {mb : Nat → Int32} (hS : RS sl nw) (hH : RH sl ch bf sz mb um) :
    ∃ r sl2 sz2 um2 nw2, fX7_undo sl sz ch bf = some (r, sl2, sz2) ∧ fX8_undo um nw mb = some (r, um2, nw2) ∧ RS sl2 nw2 ∧ RH sl2 ch bf sz2 mb um2 := by
  obtain ⟨n, hn, rfl, rfl, st, hst, hj⟩ := id hH
  cases n with
  | zero =>
    refine ⟨-2, sl, nI 0, nI 0, nw, ?_, ?_, hS, hH⟩
    · unfold fX7_undo fX1_latestSlot
      rw [brT (by decide), bd_eq rfl, bd_eq (isSlot_out (Or.inl (by decide))), brT rfl]
    · unfold fX8_undo
      rw [brT (by decide)]
  | succ p =>
    obtain ⟨r1, c, hc, r2, r3, r4⟩ := hj p (by omega)
    have e1 : nI (p + 1) - 1 = nI p := nI_pred p
    have hcl : (nI p).toNatClampNeg = p := nI_clamp (by omega)
    have hpos : ¬ nI (p + 1) ≤ 0 := nI_nle (by omega) (by omega)
    have hsl : ∀ k, k < 4 → vp_updL sl c (st p c) k = st p k := by
      intro k hk
      by_cases e : k = c
      · subst e; exact pk_uLs
      · rw [pk_uLn e, r4 k hk e, hst k hk]
    refine ⟨nI p, vp_updL sl c (st p c), nI p, nI p, fb_put nw (fun i => mb (164 * p + i)) 0 164, ?_, ?_, r1.congr hsl (fun i hi => ?_), p, by omega, rfl, rfl, st, fun k hk => (hsl k hk).symm, fun j hjp => hj j (by omega)⟩
    · unfold fX7_undo fX1_latestSlot fX1_latestSet fX1_dropLatest
      rw [brF hpos, brF hpos, brF hpos, e1, hcl, gd_eq ⟨nI_pos (by omega), by omega⟩, gd_eq ⟨nI_pos (by omega), by omega⟩, r2, bd_eq rfl, bd_eq (isSlot_in c hc), brF (by decide), bd_eq rfl, cl4 hc, g4 hc, r3]
      rfl
    · unfold fX8_undo
      rw [brF (show ¬ nI (p + 1) = 0 from nI_ne0 (by omega) (by omega))]
      simp only [lt_]
      rw [e1]
      have e0 : ((0 : Int32), nw) = (fun i => (nI i, fb_put nw (fun i => mb (164 * p + i)) 0 i)) 0 := by
        show ((0 : Int32), nw) = (nI 0, fb_put nw (fun i => mb (164 * p + i)) 0 0)
        rw [fb_put_0]; rfl
      rw [e0]
      refine run_all (step := sX8_undo_22 (nI p) mb) 164 (fun i => (nI i, fb_put nw (fun i => mb (164 * p + i)) 0 i)) _ ?_ ?_
      · intro i hi
        show bX8_undo_22 (nI p) mb (nI i) (fb_put nw (fun i => mb (164 * p + i)) 0 i) = _
        unfold bX8_undo_22
        simp (disch := omega) only [lt_, lit, nI_add, pk_mul, nI_leI, nI_ltI, nI_clamp]
        rw [brF (by omega), gd_eq (by omega), gd_eq (by omega), nar_z (r1.bz hi)]
        have e := fb_put_succ nw (fun i => mb (164 * p + i)) 0 i
        rw [Nat.zero_add] at e
        rw [e]
      · show bX8_undo_22 (nI p) mb (nI 164) (fb_put nw (fun i => mb (164 * p + i)) 0 164) = _
        unfold bX8_undo_22
        rw [brT (by decide)]
    · rw [fb_put_in (by omega) (by omega), Nat.sub_zero]
