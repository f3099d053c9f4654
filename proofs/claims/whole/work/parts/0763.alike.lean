/-! alike, partner -/
def el (P : Nat → Bool) (i : Nat) : Nat := (lsF P (fun _ => 0) 41 i).toNatClampNeg
theorem el_at {P : Nat → Bool} {i : Nat} (h : i < fb_ct P 41) (to : Nat → Int32) : lsF P to 41 i = nI (el P i) ∧ el P i < 41 := by
  obtain ⟨v, v1, v2, v3⟩ := fb_ct_kth h
  have e : el P i = v := by
    unfold el
    rw [← v3, lsF_at v1 v2, nI_clamp (by omega)]
  rw [e]
  refine ⟨?_, v1⟩
  rw [← v3]
  exact lsF_at v1 v2
theorem fillI {x : Int32} {n : Nat} (hn : n < 2 ^ 31) (g : Nat → Int32) : ∃ g2, fJ7_fill_53178 x n g = some g2 ∧ ∀ i, i < n → g2 i = x := by
  unfold fJ7_fill_53178
  simp only [lt_]
  refine run_inv0 (step := sJ7_fill_53178_5 x (Int32.ofNat n) n) n (fun i q => q.1 = nI i ∧ ∀ j, j < i → q.2 j = x) (fun g2 => ∀ i, i < n → g2 i = x) ?_ ?_ ⟨rfl, fun j hj => absurd hj (by omega)⟩
  · rintro i ⟨a, f⟩ hi ⟨rfl, hf⟩
    left
    refine ⟨(nI (i + 1), upd f i x), ?_, rfl, fun j hj => ?_⟩
    · show bJ7_fill_53178_5 n x (Int32.ofNat n) (nI i) f = _
      unfold bJ7_fill_53178_5
      simp only [lt_]
      rw [brF (show ¬ Int32.ofNat n ≤ nI i from nI_ge hi hn), nI_clamp (by omega), gd_eq ⟨nI_pos (by omega), hi⟩, nI_1]
    · show upd f i x j = x
      by_cases e : j = i
      · subst e; exact pk_us
      · rw [pk_un e]; exact hf j (by omega)
  · rintro ⟨a, f⟩ ⟨rfl, hf⟩
    refine ⟨f, ?_, hf⟩
    show bJ7_fill_53178_5 n x (Int32.ofNat n) (nI n) f = _
    unfold bJ7_fill_53178_5
    rw [brT (show Int32.ofNat n ≤ nI n from nI_le (Nat.le_refl n) hn)]
def PD (x y : Int64) (n : Nat) (pd : Int32) (se ch : Nat → Int32) : Prop := (∀ i, i < n → se i = nI (el (bi y) i)) ∧ ((pd = 0 ∧ ∀ o, isP o n → ¬ vld (el (bi x)) (el (bi y)) o n) ∨ (pd = 1 ∧ ∃ o, (∀ i, i < n → ch i = nI (o i)) ∧ lst (el (bi x)) (el (bi y)) n o))
/-- the kept search of a pairing -/
def CP (fs ss : Int64) (sz pd : Int32) (se ch : Nat → Int32) : Prop := fs = 0 ∨ (sz = nI (fb_ct (bi fs) 41) ∧ PD fs ss (fb_ct (bi fs) 41) pd se ch)
theorem seek2 {x y : Int64} (hx0 : x ≠ 0) {n : Nat} (hcx : fb_ct (bi x) 41 = n) (hcy : fb_ct (bi y) 41 = n) (h1 : 1 ≤ n) (h7 : n ≤ 7) {fs ss : Int64} {sz pd : Int32} {se ch : Nat → Int32} (hc : CP fs ss sz pd se ch) (tk : Int32) (fi th bk us pu : Nat → Int32) :
    ∃ pd2 tk2 fi2 se2 ch2 th2 bk2 us2 pu2, fX2_seek x y fs ss sz tk pd fi se ch th bk us pu = some (pd2, x, y, nI n, tk2, pd2, fi2, se2, ch2, th2, bk2, us2, pu2) ∧ PD x y n pd2 se2 ch2 := by
  have fresh : ∃ pd2 tk2 fi2 se2 ch2 th2 bk2 us2 pu2, bX2_seek_18 x y fs ss sz tk pd fi se ch th bk us pu = some (pd2, x, y, nI n, tk2, pd2, fi2, se2, ch2, th2, bk2, us2, pu2) ∧ PD x y n pd2 se2 ch2 := by
    obtain ⟨us1, f1, f2⟩ := fillI (x := 0) (n := 81) (by omega) us
    obtain ⟨pu1, f3, f4⟩ := fillI (x := 0) (n := 81) (by omega) pu
    have hf : ∀ i, i < n → lsF (bi x) fi 41 i = nI (el (bi x) i) := fun i hi => (el_at (by omega) fi).1
    have hfa : ∀ i, i < n → el (bi x) i < 41 := fun i hi => (el_at (P := bi x) (by omega) fi).2
    have hs : ∀ i, i < n → lsF (bi y) se 41 i = nI (el (bi y) i) := fun i hi => (el_at (by omega) se).1
    have hsb : ∀ i, i < n → el (bi y) i < 41 := fun i hi => (el_at (P := bi y) (by omega) se).2
    have hST : ST (el (bi x)) (el (bi y)) 0 (fun i => i) 0 ch th bk us1 pu1 := by
      refine ⟨fun i hi => absurd hi (by omega), ⟨0, by omega, rfl, fun c hc => ?_⟩, fun s hs => ?_, fun s hs => ?_, fun i j hp => ?_⟩
      · rw [Nat.zero_testBit]
        constructor
        · intro z; cases z
        · rintro ⟨_, z, _⟩; omega
      · rw [f2 s hs]; rfl
      · rw [f4 s hs]; rfl
      · rcases hp with z | z
        · exact absurd z.1 (by omega)
        · exact absurd z.2 (by omega)
    obtain ⟨⟨r, tk2, ch2, th2, bk2, us2, pu2⟩, rr, hPA⟩ := pairFrom_eq h7 hf hfa hs hsb 8 0 (fun i => i) 0 ch th bk us1 pu1 (by omega) (by omega) (fun i hi => absurd hi (by omega)) (fun i j hi => absurd hi (by omega)) hST
    have rr : fX2_pairFrom 8 0 (nI n) 0 (lsF (bi x) fi 41) (lsF (bi y) se 41) ch th bk us1 pu1 = some (r, tk2, ch2, th2, bk2, us2, pu2) := rr
    have hr : r = 0 ∨ r = 1 := hPA.elim (fun z => Or.inr z.1) (fun z => Or.inl z.1)
    refine ⟨r, tk2, lsF (bi x) fi 41, lsF (bi y) se 41, ch2, th2, bk2, us2, pu2, ?_, hs, ?_⟩
    · unfold bX2_seek_18
      rw [bd_eq (lists7_eq x (n := 7) (by omega) (by omega) fi), bd_eq (lists7_eq y (n := 7) (by omega) (by omega) se), hcx, hcy]
      simp only [lt_, ite_self]
      rw [bd_eq f1, bd_eq f3, bd_eq rr, gd_eq hr, gd_eq hr]
    · rcases hPA with ⟨e1, w, w1, w2, w3, _, w5⟩ | ⟨e1, hno, _⟩
      · exact Or.inr ⟨e1, w, w1, w2, w3, fun t ht hv => w5 t ht hv (fun i hi => absurd hi (by omega))⟩
      · exact Or.inl ⟨e1, fun o ho hv => hno o ho hv (fun i hi => absurd hi (by omega))⟩
  unfold fX2_seek
  by_cases e1 : x = fs
  · rw [brT ((cmp_eq _ _).mpr e1)]
    by_cases e2 : y = ss
    · rw [brT ((cmp_eq _ _).mpr e2)]
      subst e1
      subst e2
      rcases hc with z | ⟨z1, z2⟩
      · exact absurd z hx0
      · rw [hcx] at z1 z2
        rw [gd_eq (show pd = 0 ∨ pd = 1 from z2.2.elim (fun z => Or.inl z.1) (fun z => Or.inr z.1)), z1]
        exact ⟨pd, tk, fi, se, ch, th, bk, us, pu, rfl, z2⟩
    · rw [brF (fun z => e2 ((cmp_eq _ _).mp z))]; exact fresh
  · rw [brF (fun z => e1 ((cmp_eq _ _).mp z))]; exact fresh
def cpr (sl : Nat → Int64) (a b : Nat) : Prop := cn sl a = cn sl b ∧ 1 ≤ cn sl a ∧ cn sl a ≤ 7
theorem canPair_yes {sl : Nat → Int64} {nw : Nat → Int32} (h : RS sl nw) {a b : Nat} (ha : a < 4) (hb : b < 4) (hp : cpr sl a b) : fX7_canPair (nI a) (nI b) sl = some 1 := by
  obtain ⟨h1, h2, h3⟩ := hp
  unfold fX7_canPair
  rw [cl4 ha, cl4 hb, g4 ha, bd_eq (h.bc ha), g4 hb, bd_eq (h.bc hb), brT (by rw [h1]), brF (nI_nle (by omega) (by omega)), brF (show ¬ (7 : Int32) < nI (cn sl a) from nI_nlt (a := 7) h3 (by omega)), gd_eq (by decide)]
theorem canPair_no {sl : Nat → Int64} {nw : Nat → Int32} (h : RS sl nw) {a b : Nat} (ha : a < 4) (hb : b < 4) (hp : ¬ cpr sl a b) : fX7_canPair (nI a) (nI b) sl = some 0 := by
  have c1 := cn_le sl a
  have c2 := cn_le sl b
  have e37 : bX7_canPair_37 sl = some 0 := by unfold bX7_canPair_37; exact gd_eq (Or.inl rfl)
  unfold fX7_canPair
  rw [cl4 ha, cl4 hb, g4 ha, bd_eq (h.bc ha), g4 hb, bd_eq (h.bc hb), e37]
  by_cases h1 : cn sl a = cn sl b
  · rw [brT (by rw [h1])]
    by_cases h2 : 1 ≤ cn sl a
    · rw [brF (nI_nle (by omega) (by omega))]
      by_cases h3 : cn sl a ≤ 7
      · exact absurd ⟨h1, h2, h3⟩ hp
      · rw [brT (show (7 : Int32) < nI (cn sl a) from nI_lt (a := 7) (by omega) (by omega))]
    · rw [brT (show nI (cn sl a) ≤ 0 by rw [show cn sl a = 0 by omega]; decide)]
  · rw [brF (fun z => h1 ((nI_eq (by omega) (by omega)).mp z))]
theorem p1_ : (1 : Int64) = (1 : Int32).toInt64 := by decide
theorem p7_ : (7 : Int64) = (7 : Int32).toInt64 := by decide
theorem many_yes {sl : Nat → Int64} {nw : Nat → Int32} (h : RS sl nw) {a b : Nat} (ha : a < 4) (hb : b < 4) (hp : cpr sl a b) (fi se : Nat → Int32) : fX8_alikeMany (nI a) (nI b) nw fi se = some (nI (cn sl a), lsF (bi (sl a)) fi 41, lsF (bi (sl b)) se 41) := by
  obtain ⟨h1, h2, h3⟩ := hp
  unfold fX8_alikeMany
  rw [bd_eq (lists8_eq h ha fi), bd_eq (lists8_eq h hb se), brT (by rw [h1])]
  show bd (fX8_in (nI (cn sl a)).toInt64 1 7) _ = _
  rw [p1_, p7_, in8_dec, if_neg (by
    rintro (z | z)
    · exact absurd z (show ¬ nI (cn sl a) < (1 : Int32) from nI_nlt (b := 1) h2 (by omega))
    · exact absurd z (show ¬ (7 : Int32) < nI (cn sl a) from nI_nlt (a := 7) h3 (by omega))), bd_eq rfl, brF (by decide)]
theorem many_no {sl : Nat → Int64} {nw : Nat → Int32} (h : RS sl nw) {a b : Nat} (ha : a < 4) (hb : b < 4) (hp : ¬ cpr sl a b) (fi se : Nat → Int32) : fX8_alikeMany (nI a) (nI b) nw fi se = some (-2, lsF (bi (sl a)) fi 41, lsF (bi (sl b)) se 41) := by
  have c1 := cn_le sl a
  have c2 := cn_le sl b
  unfold fX8_alikeMany bX8_alikeMany_39
  rw [bd_eq (lists8_eq h ha fi), bd_eq (lists8_eq h hb se)]
  by_cases h1 : cn sl a = cn sl b
  · rw [brT (by rw [h1])]
    show bd (fX8_in (nI (cn sl a)).toInt64 1 7) _ = _
    rw [p1_, p7_, in8_dec, if_pos (by
      by_cases h2 : 1 ≤ cn sl a
      · by_cases h3 : cn sl a ≤ 7
        · exact absurd ⟨h1, h2, h3⟩ hp
        · exact Or.inr (show (7 : Int32) < nI (cn sl a) from nI_lt (a := 7) (by omega) (by omega))
      · exact Or.inl (show nI (cn sl a) < (1 : Int32) from nI_lt (b := 1) (by omega) (by omega))), bd_eq rfl, brT rfl]
  · rw [brF (fun z => h1 ((nI_eq (by omega) (by omega)).mp z))]
theorem nm2 {n : Nat} (h : n < 2 ^ 31) : ¬ nI n = (-2 : Int32) := fun z => nI_pos h (by rw [z]; decide)
/-- both searches of one pairing -/
theorem both {sl : Nat → Int64} {nw : Nat → Int32} (h : RS sl nw) {a b : Nat} (ha : a < 4) (hp : cpr sl a b) {fs ss : Int64} {sz pd : Int32} {se ch : Nat → Int32} (hc : CP fs ss sz pd se ch) (tk : Int32) (fi th bk us pu fi8 se8 od : Nat → Int32) :
    ∃ r tk2 fi2 se2 ch2 th2 bk2 us2 pu2 od2, fX2_seek (sl a) (sl b) fs ss sz tk pd fi se ch th bk us pu = some (r, sl a, sl b, nI (cn sl a), tk2, r, fi2, se2, ch2, th2, bk2, us2, pu2) ∧ fX8_findPairing (nI (cn sl a)) (lsF (bi (sl a)) fi8 41) (lsF (bi (sl b)) se8 41) od = some (r, od2) ∧ CP (sl a) (sl b) (nI (cn sl a)) r se2 ch2 ∧ (r = 0 ∨ (r = 1 ∧ ∀ i, i < cn sl a → ∃ k, k < cn sl a ∧ ch2 i = nI k ∧ od2 i = nI k ∧ se2 k = lsF (bi (sl b)) se8 41 k)) := by
  obtain ⟨h1, h2, h3⟩ := hp
  have hx0 : sl a ≠ 0 := fun y => by have := (zero_iff h ha).mp y; omega
  have hca : fb_ct (bi (sl a)) 41 = cn sl a := rfl
  have hcb : fb_ct (bi (sl b)) 41 = cn sl a := by rw [h1]; rfl
  obtain ⟨r, tk2, fi2, se2, ch2, th2, bk2, us2, pu2, s1, s2⟩ := seek2 hx0 hca hcb h2 h3 hc tk fi th bk us pu
  obtain ⟨r8, od2, t1, t2⟩ := findPairing8 (as := el (bi (sl a))) (bs := el (bi (sl b))) h2 h3 (fun i hi => (el_at (by omega) fi8).1) (fun i hi => (el_at (P := bi (sl a)) (by omega) fi8).2) (fun i hi => (el_at (by omega) se8).1) (fun i hi => (el_at (P := bi (sl b)) (by omega) se8).2) od
  have hCP : CP (sl a) (sl b) (nI (cn sl a)) r se2 ch2 := Or.inr ⟨rfl, s2⟩
  rcases s2.2 with ⟨e1, hno⟩ | ⟨e1, o, o1, o2⟩
  · rcases t2 with ⟨e2, _⟩ | ⟨_, o', _, o2'⟩
    · refine ⟨r, tk2, fi2, se2, ch2, th2, bk2, us2, pu2, od2, s1, ?_, hCP, Or.inl e1⟩
      rw [e1, ← e2]; exact t1
    · exact absurd o2'.2.1 (hno o' o2'.1)
  · rcases t2 with ⟨_, hno⟩ | ⟨e2, o', o1', o2'⟩
    · exact absurd o2.2.1 (hno o o2.1)
    · refine ⟨r, tk2, fi2, se2, ch2, th2, bk2, us2, pu2, od2, s1, ?_, hCP, Or.inr ⟨e1, fun i hi => ?_⟩⟩
      · rw [e1, ← e2]; exact t1
      · have ho := o2.1.1 i hi
        refine ⟨o i, ho, o1 i hi, ?_, ?_⟩
        · rw [o1' i hi, o2.one o2' i hi]
        · rw [s2.1 _ ho]
          exact ((el_at (by omega) se8).1).symm
theorem core_alike {sl : Nat → Int64} {nw : Nat → Int32} (h : RS sl nw) {fs ss : Int64} {sz pd : Int32} {se ch : Nat → Int32} (hc : CP fs ss sz pd se ch) (q w : Int32) (tk : Int32) (fi th bk us pu fi8 se8 od : Nat → Int32) :
    ∃ r fs2 ss2 sz2 tk2 pd2 fi2 se2 ch2 th2 bk2 us2 pu2 fi9 se9 od2, fX7_alike q w sl fs ss sz tk pd fi se ch th bk us pu = some (r, fs2, ss2, sz2, tk2, pd2, fi2, se2, ch2, th2, bk2, us2, pu2) ∧ fX8_alike q w nw fi8 se8 od = some (r, fi9, se9, od2) ∧ CP fs2 ss2 sz2 pd2 se2 ch2 := by
  rcases slot_cases q with ⟨a, ha, rfl⟩ | hq
  · rcases slot_cases w with ⟨b, hb, rfl⟩ | hw
    · by_cases hp : cpr sl a b
      · obtain ⟨r, tk2, fi2, se2, ch2, th2, bk2, us2, pu2, od2, s1, t1, hCP, hr⟩ := both h ha hp hc tk fi th bk us pu fi8 se8 od
        have h3 := hp.2.2
        have e7 : fX7_alike (nI a) (nI b) sl fs ss sz tk pd fi se ch th bk us pu = br (r = 0) (some ((0 : Int32), sl a, sl b, nI (cn sl a), tk2, r, fi2, se2, ch2, th2, bk2, us2, pu2)) (some ((1 : Int32), sl a, sl b, nI (cn sl a), tk2, r, fi2, se2, ch2, th2, bk2, us2, pu2)) := by
          unfold fX7_alike
          rw [bd_eq (isSlot_in a ha), brF (by decide), bd_eq (isSlot_in b hb), brF (by decide), bd_eq (canPair_yes h ha hb hp), brF (by decide), cl4 ha, cl4 hb, g4 ha, g4 hb, bd_eq s1]
        have e8 : fX8_alike (nI a) (nI b) nw fi8 se8 od = br (r = 0) (some ((0 : Int32), lsF (bi (sl a)) fi8 41, lsF (bi (sl b)) se8 41, od2)) (some ((1 : Int32), lsF (bi (sl a)) fi8 41, lsF (bi (sl b)) se8 41, od2)) := by
          unfold fX8_alike
          rw [bd_eq (isSlot8_in a ha), brF (by decide), bd_eq (isSlot8_in b hb), brF (by decide), bd_eq (many_yes h ha hb hp fi8 se8), brF (nm2 (by omega)), bd_eq t1]
        rw [e7, e8]
        by_cases r0 : r = 0
        · rw [brT r0, brT r0]
          exact ⟨_, _, _, _, _, _, _, _, _, _, _, _, _, _, _, _, rfl, rfl, hCP⟩
        · rw [brF r0, brF r0]
          exact ⟨_, _, _, _, _, _, _, _, _, _, _, _, _, _, _, _, rfl, rfl, hCP⟩
      · refine ⟨-2, fs, ss, sz, tk, pd, fi, se, ch, th, bk, us, pu, lsF (bi (sl a)) fi8 41, lsF (bi (sl b)) se8 41, od, ?_, ?_, hc⟩
        · unfold fX7_alike
          rw [bd_eq (isSlot_in a ha), brF (by decide), bd_eq (isSlot_in b hb), brF (by decide), bd_eq (canPair_no h ha hb hp), brT rfl]
        · unfold fX8_alike
          rw [bd_eq (isSlot8_in a ha), brF (by decide), bd_eq (isSlot8_in b hb), brF (by decide), bd_eq (many_no h ha hb hp fi8 se8), brT rfl]
    · refine ⟨-1, fs, ss, sz, tk, pd, fi, se, ch, th, bk, us, pu, fi8, se8, od, ?_, ?_, hc⟩
      · unfold fX7_alike
        rw [bd_eq (isSlot_in a ha), brF (by decide), bd_eq (isSlot_out hw), brT rfl]
      · unfold fX8_alike
        rw [bd_eq (isSlot8_in a ha), brF (by decide), bd_eq (isSlot8_out hw), brT rfl]
  · refine ⟨-1, fs, ss, sz, tk, pd, fi, se, ch, th, bk, us, pu, fi8, se8, od, ?_, ?_, hc⟩
    · unfold fX7_alike
      rw [bd_eq (isSlot_out hq), brT rfl]
    · unfold fX8_alike
      rw [bd_eq (isSlot8_out hq), brT rfl]
theorem core_partner {sl : Nat → Int64} {nw : Nat → Int32} (h : RS sl nw) {fs ss : Int64} {sz pd : Int32} {se ch : Nat → Int32} (hc : CP fs ss sz pd se ch) (q w z : Int32) (tk : Int32) (fi th bk us pu fi8 se8 od : Nat → Int32) :
    ∃ r fs2 ss2 sz2 tk2 pd2 fi2 se2 ch2 th2 bk2 us2 pu2 fi9 se9 od2, fX7_partner q w z sl fs ss sz tk pd fi se ch th bk us pu = some (r, fs2, ss2, sz2, tk2, pd2, fi2, se2, ch2, th2, bk2, us2, pu2) ∧ fX8_partner q w z nw fi8 se8 od = some (r, fi9, se9, od2) ∧ CP fs2 ss2 sz2 pd2 se2 ch2 := by
  rcases slot_cases q with ⟨a, ha, rfl⟩ | hq
  · rcases slot_cases w with ⟨b, hb, rfl⟩ | hw
    · by_cases hz : 0 ≤ z
      · by_cases hp : cpr sl a b
        · obtain ⟨r, tk2, fi2, se2, ch2, th2, bk2, us2, pu2, od2, s1, t1, hCP, hr⟩ := both h ha hp hc tk fi th bk us pu fi8 se8 od
          have h3 := hp.2.2
          have z0 : ¬ z < 0 := fun y => absurd (Int32.not_le.mpr y) (fun k => k hz)
          have e7 : fX7_partner (nI a) (nI b) z sl fs ss sz tk pd fi se ch th bk us pu = br (r = 0) (some ((-4 : Int32), sl a, sl b, nI (cn sl a), tk2, r, fi2, se2, ch2, th2, bk2, us2, pu2)) (bd (fX2_partnerOf z (nI (cn sl a)) se2 ch2) (fun u12 => some (u12, sl a, sl b, nI (cn sl a), tk2, r, fi2, se2, ch2, th2, bk2, us2, pu2))) := by
            unfold fX7_partner
            rw [bd_eq (isSlot_in a ha), brF (by decide), bd_eq (isSlot_in b hb), brF (by decide), brT hz, bd_eq (canPair_yes h ha hb hp), brF (by decide), cl4 ha, cl4 hb, g4 ha, g4 hb, bd_eq s1]
          have e8 : fX8_partner (nI a) (nI b) z nw fi8 se8 od = br (nI (cn sl a) ≤ z) (some ((-4 : Int32), lsF (bi (sl a)) fi8 41, lsF (bi (sl b)) se8 41, od)) (br (r = 0) (some ((-4 : Int32), lsF (bi (sl a)) fi8 41, lsF (bi (sl b)) se8 41, od2)) (gd (¬ z < 0 ∧ z.toNatClampNeg < 7) (gd (¬ od2 z.toNatClampNeg < 0 ∧ (od2 z.toNatClampNeg).toNatClampNeg < 41) (some (lsF (bi (sl b)) se8 41 (od2 z.toNatClampNeg).toNatClampNeg, lsF (bi (sl a)) fi8 41, lsF (bi (sl b)) se8 41, od2))))) := by
            unfold fX8_partner bX8_partner_67
            rw [bd_eq (isSlot8_in a ha), brF (by decide), bd_eq (isSlot8_in b hb), brF (by decide), brT hz, bd_eq (many_yes h ha hb hp fi8 se8), brF (nm2 (by omega)), bd_eq t1]
          rw [e7, e8]
          by_cases hn : nI (cn sl a) ≤ z
          · rw [brT hn]
            by_cases r0 : r = 0
            · rw [brT r0]
              exact ⟨_, _, _, _, _, _, _, _, _, _, _, _, _, _, _, _, rfl, rfl, hCP⟩
            · have ep : fX2_partnerOf z (nI (cn sl a)) se2 ch2 = some (-4) := by
                unfold fX2_partnerOf bX2_partnerOf_26
                rw [brF z0, brT hn]
              rw [brF r0, bd_eq ep]
              exact ⟨_, _, _, _, _, _, _, _, _, _, _, _, _, _, _, _, rfl, rfl, hCP⟩
          · rw [brF hn]
            by_cases r0 : r = 0
            · rw [brT r0, brT r0]
              exact ⟨_, _, _, _, _, _, _, _, _, _, _, _, _, _, _, _, rfl, rfl, hCP⟩
            · obtain ⟨i, i1, rfl⟩ := nI_of z0
              have hi : i < cn sl a := by
                rcases Nat.lt_or_ge i (cn sl a) with y | y
                · exact y
                · exact absurd (nI_le y i1) hn
              obtain ⟨k, k1, k2, k3, k4⟩ := (hr.resolve_left r0).2 i hi
              have ep : fX2_partnerOf (nI i) (nI (cn sl a)) se2 ch2 = some (lsF (bi (sl b)) se8 41 k) := by
                unfold fX2_partnerOf
                rw [brF z0, brF hn, nI_clamp i1, gd_eq ⟨z0, by omega⟩, k2, nI_clamp (by omega), gd_eq ⟨nI_pos (by omega), by omega⟩, k4]
              rw [brF r0, brF r0, bd_eq ep, nI_clamp i1, gd_eq ⟨z0, by omega⟩, k3, nI_clamp (by omega), gd_eq ⟨nI_pos (by omega), by omega⟩]
              exact ⟨_, _, _, _, _, _, _, _, _, _, _, _, _, _, _, _, rfl, rfl, hCP⟩
        · refine ⟨-2, fs, ss, sz, tk, pd, fi, se, ch, th, bk, us, pu, lsF (bi (sl a)) fi8 41, lsF (bi (sl b)) se8 41, od, ?_, ?_, hc⟩
          · unfold fX7_partner
            rw [bd_eq (isSlot_in a ha), brF (by decide), bd_eq (isSlot_in b hb), brF (by decide), brT hz, bd_eq (canPair_no h ha hb hp), brT rfl]
          · unfold fX8_partner
            rw [bd_eq (isSlot8_in a ha), brF (by decide), bd_eq (isSlot8_in b hb), brF (by decide), brT hz, bd_eq (many_no h ha hb hp fi8 se8), brT rfl]
      · refine ⟨-1, fs, ss, sz, tk, pd, fi, se, ch, th, bk, us, pu, fi8, se8, od, ?_, ?_, hc⟩
        · unfold fX7_partner
          rw [bd_eq (isSlot_in a ha), brF (by decide), bd_eq (isSlot_in b hb), brF (by decide), brF hz]
        · unfold fX8_partner
          rw [bd_eq (isSlot8_in a ha), brF (by decide), bd_eq (isSlot8_in b hb), brF (by decide), brF hz]
    · refine ⟨-1, fs, ss, sz, tk, pd, fi, se, ch, th, bk, us, pu, fi8, se8, od, ?_, ?_, hc⟩
      · unfold fX7_partner
        rw [bd_eq (isSlot_in a ha), brF (by decide), bd_eq (isSlot_out hw), brT rfl]
      · unfold fX8_partner
        rw [bd_eq (isSlot8_in a ha), brF (by decide), bd_eq (isSlot8_out hw), brT rfl]
  · refine ⟨-1, fs, ss, sz, tk, pd, fi, se, ch, th, bk, us, pu, fi8, se8, od, ?_, ?_, hc⟩
    · unfold fX7_partner
      rw [bd_eq (isSlot_out hq), brT rfl]
    · unfold fX8_partner
      rw [bd_eq (isSlot8_out hq), brT rfl]
