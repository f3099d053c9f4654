def NG (A : Nat → Bool) (a0 ar P : Nat) : Prop := ∀ d e m k, OKg A a0 d e m k → m * k = ar → P ≤ posn d e m
def FG (A : Nat → Bool) (a0 ar : Nat) (f1 f2 f3 f4 : Int32) : Prop := ∃ d e m k, f1 = nI d ∧ f2 = nI e ∧ f3 = nI m ∧ f4 = nI k ∧ OKg A a0 d e m k ∧ m * k = ar ∧ ∀ d' e' m' k', OKg A a0 d' e' m' k' → m' * k' = ar → posn d e m ≤ posn d' e' m'
theorem seekA27 {x : Int64} {a0 sp : Nat} (ha0 : a0 ≤ 40) (hsp : a0 + sp ≤ 40) (hlo : ∀ v, bi x v = true → a0 ≤ v ∧ v ≤ a0 + sp) (htop : bi x (a0 + sp) = true) {fb : Int64} (hfb : ∀ v, bi fb v = bi x (v + a0)) {ar : Nat} (h81 : ar ≤ 81) {g : Nat → Int32} (hg : ∀ m, m < 41 → fF ar m = true → g (fb_ct (fF ar) m) = nI m) {d : Nat} (hd : 1 ≤ d) (hdw : d < 80 - a0) (f1 f2 f3 f4 : Int32) (hN : NG (bi x) a0 ar (posn d (d + 1) 2)) :
    ∃ t, run (sX0_seekArea_27 (nI (fb_ct (fF ar) 41)) (nI d) fb (nI sp) (nI (80 - a0)) g) (nI (d + 1), f1, f2, f3, f4) = some t ∧ ((t = .inl (nI (d + 1), f1, f2, f3, f4) ∧ NG (bi x) a0 ar (posn (d + 1) (d + 2) 2)) ∨ ∃ h1 h2 h3 h4, t = .inr (1, h1, h2, h3, h4, g) ∧ FG (bi x) a0 ar h1 h2 h3 h4) := by
  refine run_inv0 (step := sX0_seekArea_27 (nI (fb_ct (fF ar) 41)) (nI d) fb (nI sp) (nI (80 - a0)) g) (80 - a0 - 2 * d) (fun i q => q = (nI (d + 1 + i), f1, f2, f3, f4) ∧ NG (bi x) a0 ar (posn d (d + 1 + i) 2)) (fun t => (t = .inl (nI (d + 1), f1, f2, f3, f4) ∧ NG (bi x) a0 ar (posn (d + 1) (d + 2) 2)) ∨ ∃ h1 h2 h3 h4, t = .inr (1, h1, h2, h3, h4, g) ∧ FG (bi x) a0 ar h1 h2 h3 h4) ?_ ?_ ⟨rfl, hN⟩
  · rintro i q hi ⟨rfl, hI⟩
    show (∃ q2, bX0_seekArea_27 (nI (fb_ct (fF ar) 41)) (nI d) fb (nI sp) (nI (80 - a0)) g (nI (d + 1 + i)) f1 f2 f3 f4 = _ ∧ _) ∨ (∃ t, bX0_seekArea_27 (nI (fb_ct (fF ar) 41)) (nI d) fb (nI sp) (nI (80 - a0)) g (nI (d + 1 + i)) f1 f2 f3 f4 = _ ∧ _)
    unfold bX0_seekArea_27
    simp only [lt_]
    obtain ⟨r, re, rp⟩ := seekLen ha0 hsp hlo htop hfb h81 hg (d := d) (e := d + 1 + i) hd (by omega) (by omega) f1 f2 f3 f4
    rw [nI_add, brF (nI_nlt (by omega) (by omega)), bd_eq re]
    rcases rp with ⟨rfl, hno⟩ | ⟨m, k, rfl, ho, har, hmin⟩
    · rw [brT rfl]
      refine Or.inl ⟨_, rfl, ?_, ?_⟩
      · show (nI (d + 1 + i) + 1, _) = _
        rw [nI_1]
        rfl
      · intro d' e' m' k' ho har
        have bd := ho.bd
        refine Classical.byContradiction fun hn => ?_
        obtain ⟨q1, q2, q3⟩ := pos_win (d := d) (e := d + 1 + i) (m := 2) (d' := d') (e' := e') (m' := m') (by omega) (by omega) (by omega) (by omega) (by omega) (by have := hI d' e' m' k' ho har; omega) (Nat.lt_of_not_le hn)
        subst q1
        rw [q2] at ho
        exact hno m' k' ho har
    · rw [brF (show ¬ (1 : Int32) = 0 by decide), gd_eq (by decide)]
      refine Or.inr ⟨_, rfl, Or.inr ⟨_, _, _, _, rfl, d, d + 1 + i, m, k, rfl, rfl, rfl, rfl, ho, har, ?_⟩⟩
      intro d' e' m' k' ho' har'
      have bd := ho'.bd
      have bd2 := ho.bd
      refine Classical.byContradiction fun hn => ?_
      obtain ⟨q1, q2, q3⟩ := pos_win (d := d) (e := d + 1 + i) (m := 2) (d' := d') (e' := e') (m' := m') (by omega) (by omega) (by omega) (by omega) (by omega) (by have := hI d' e' m' k' ho' har'; omega) (by
        have z := Nat.lt_of_not_le hn
        have z2 : posn d (d + 1 + i) m ≤ posn d (d + 1 + i + 1) 2 := by unfold posn; omega
        omega)
      subst q1
      rw [q2] at ho' hn
      have := hmin m' k' ho' har'
      apply hn
      unfold posn
      omega
  · rintro q ⟨rfl, hI⟩
    show ∃ t, bX0_seekArea_27 (nI (fb_ct (fF ar) 41)) (nI d) fb (nI sp) (nI (80 - a0)) g (nI (d + 1 + (80 - a0 - 2 * d))) f1 f2 f3 f4 = _ ∧ _
    unfold bX0_seekArea_27
    simp only [lt_]
    rw [nI_add, brT (nI_lt (by omega) (by omega)), nI_1]
    refine ⟨_, rfl, Or.inl ⟨rfl, ?_⟩⟩
    intro d' e' m' k' ho har
    have bd := ho.bd
    refine Classical.byContradiction fun hn => ?_
    obtain ⟨q1, q2⟩ := pos_win2 (d := d) (e := d + 1 + (80 - a0 - 2 * d)) (d' := d') (e' := e') (m' := m') (by omega) (by omega) (by omega) (by omega) (by omega) (by omega) (by have := hI d' e' m' k' ho har; omega) (Nat.lt_of_not_le hn)
    omega
theorem seekAr {x : Int64} {a0 sp : Nat} (ha0 : a0 ≤ 40) (hsp : a0 + sp ≤ 40) (hlo : ∀ v, bi x v = true → a0 ≤ v ∧ v ≤ a0 + sp) (htop : bi x (a0 + sp) = true) {fb : Int64} (hfb : ∀ v, bi fb v = bi x (v + a0)) {ar : Nat} (h4 : 4 ≤ ar) (h81 : ar ≤ 81) (g : Nat → Int32) (f1 f2 f3 f4 : Int32) :
    ∃ r h1 h2 h3 h4 g2, fX0_seekArea (nI ar) fb (nI sp) (nI (80 - a0)) f1 f2 f3 f4 g = some (r, h1, h2, h3, h4, g2) ∧ ((r = 0 ∧ ∀ d e m k, OKg (bi x) a0 d e m k → m * k ≠ ar) ∨ (r = 1 ∧ FG (bi x) a0 ar h1 h2 h3 h4)) := by
  obtain ⟨g2, l1, hg⟩ := listF h4 h81 g
  have c41 := fb_ct_le (fF ar) 41
  unfold fX0_seekArea
  rw [bd_eq l1]
  by_cases c0 : fb_ct (fF ar) 41 = 0
  · rw [brT (show nI (fb_ct (fF ar) 41) = 0 by rw [c0]; rfl), gd_eq (by decide)]
    refine ⟨_, _, _, _, _, _, rfl, Or.inl ⟨rfl, fun d e m k ho har => ?_⟩⟩
    obtain ⟨q1, q2, q3⟩ := ho.fac har h81
    have := ct_lt q2 q1
    omega
  · rw [brF (nI_ne0 (by omega) (by omega))]
    have key := run_inv0 (step := sX0_seekArea_14 (nI (fb_ct (fF ar) 41)) fb (nI sp) (nI (80 - a0)) g2) (80 - a0 - 1) (fun i q => q = (nI (1 + i), f1, f2, f3, f4) ∧ NG (bi x) a0 ar (posn (1 + i) (1 + i + 1) 2)) (fun t => ∃ r h1 h2 h3 h4 g2, t = (r, h1, h2, h3, h4, g2) ∧ ((r = 0 ∧ ∀ d e m k, OKg (bi x) a0 d e m k → m * k ≠ ar) ∨ (r = 1 ∧ FG (bi x) a0 ar h1 h2 h3 h4))) (by
      rintro i q hi ⟨rfl, hI⟩
      show (∃ q2, bX0_seekArea_14 (nI (fb_ct (fF ar) 41)) fb (nI sp) (nI (80 - a0)) g2 (nI (1 + i)) f1 f2 f3 f4 = _ ∧ _) ∨ (∃ t, bX0_seekArea_14 (nI (fb_ct (fF ar) 41)) fb (nI sp) (nI (80 - a0)) g2 (nI (1 + i)) f1 f2 f3 f4 = _ ∧ _)
      unfold bX0_seekArea_14
      simp only [lt_]
      rw [brF (nI_ge (by omega) (by omega)), nI_1]
      obtain ⟨t, te, tp⟩ := seekA27 ha0 hsp hlo htop hfb h81 hg (d := 1 + i) (by omega) (by omega) f1 f2 f3 f4 hI
      rw [te]
      rcases tp with ⟨rfl, hn⟩ | ⟨h1, h2, h3, h4, rfl, hF⟩
      · exact Or.inl ⟨_, rfl, rfl, hn⟩
      · exact Or.inr ⟨_, rfl, _, _, _, _, _, _, rfl, Or.inr ⟨rfl, hF⟩⟩) (by
      rintro q ⟨rfl, hI⟩
      show ∃ t, bX0_seekArea_14 (nI (fb_ct (fF ar) 41)) fb (nI sp) (nI (80 - a0)) g2 (nI (1 + (80 - a0 - 1))) f1 f2 f3 f4 = _ ∧ _
      unfold bX0_seekArea_14
      rw [brT (nI_le (by omega) (by omega)), gd_eq (by decide)]
      refine ⟨_, rfl, _, _, _, _, _, _, rfl, Or.inl ⟨rfl, fun d e m k ho har => ?_⟩⟩
      have bd := ho.bd
      have h1 := hI d e m k ho har
      rw [show 1 + (80 - a0 - 1) = 80 - a0 by omega] at h1
      unfold posn at h1
      have : (d + 1) * 16384 ≤ (80 - a0) * 16384 := Nat.mul_le_mul_right _ (by omega)
      omega) (q := ((1 : Int32), f1, f2, f3, f4)) ⟨rfl, fun d e m k ho har => by
        have bd := ho.bd
        show posn 1 2 2 ≤ posn d e m
        unfold posn
        have : 1 * 16384 ≤ d * 16384 := Nat.mul_le_mul_right _ (by omega)
        have : 2 * 128 ≤ e * 128 := Nat.mul_le_mul_right _ (by omega)
        omega⟩
    obtain ⟨t, te, r, h1, h2, h3, h4, g3, rfl, hp⟩ := key
    exact ⟨r, h1, h2, h3, h4, g3, te, hp⟩
/-- what the class has found of the grids of a set -/
def GD (x : Int64) (a0 : Nat) (fo ba f1 f2 f3 f4 : Int32) : Prop := ba = nI a0 ∧ ((fo = 0 ∧ ∀ d e m k, ¬ OKg (bi x) a0 d e m k) ∨ (fo = 1 ∧ ∃ d e m k, f1 = nI d ∧ f2 = nI e ∧ f3 = nI m ∧ f4 = nI k ∧ BestG (bi x) a0 d e m k))
/-- the kept search of grids -/
def CG (so : Int64) (fo ba f1 f2 f3 f4 : Int32) : Prop := so = 0 ∨ ∃ a0, low so a0 ∧ GD so a0 fo ba f1 f2 f3 f4
theorem low_one {x : Int64} {a b : Nat} (ha : low x a) (hb : low x b) : a = b := by
  rcases Nat.lt_trichotomy a b with z | z | z
  · have := hb.2.2 a z; rw [ha.2.1] at this; cases this
  · exact z
  · have := ha.2.2 b z; rw [hb.2.1] at this; cases this
theorem seek0 {x : Int64} (hx0 : x ≠ 0) (hx : ∀ v, 41 ≤ v → bi x v = false) {a0 b : Nat} (hl : low x a0) (ha : a0 < 41) (ht : top x b) (hb : b < 41) {so : Int64} {fo ba f1 f2 f3 f4 : Int32} (hc : CG so fo ba f1 f2 f3 f4) (fb : Int64) (sp wi : Int32) (g : Nat → Int32) :
    ∃ fo2 fb2 ba2 sp2 wi2 h1 h2 h3 h4 g2, fX0_seek x so fo fb ba sp wi f1 f2 f3 f4 g = some (fo2, x, fo2, fb2, ba2, sp2, wi2, h1, h2, h3, h4, g2) ∧ GD x a0 fo2 ba2 h1 h2 h3 h4 := by
  unfold fX0_seek
  by_cases e1 : x = so
  · rw [brT ((cmp_eq _ _).mpr e1)]
    subst e1
    rcases hc with z | ⟨a, h1, h2⟩
    · exact absurd z hx0
    · have := low_one h1 hl
      subst this
      rw [gd_eq (show fo = 0 ∨ fo = 1 from h2.2.elim (fun z => Or.inl z.1) (fun z => Or.inr z.1))]
      exact ⟨_, _, _, _, _, _, _, _, _, _, rfl, h2⟩
  · rw [brF (fun z => e1 ((cmp_eq _ _).mp z))]
    have hab : a0 ≤ b := by
      rcases Nat.lt_or_ge b a0 with z | z
      · have := hl.2.2 b z; rw [ht.2.1] at this; cases this
      · exact z
    have hlo : ∀ v, bi x v = true → a0 ≤ v ∧ v ≤ a0 + (b - a0) := by
      intro v hv
      constructor
      · rcases Nat.lt_or_ge v a0 with z | z
        · rw [hl.2.2 v z] at hv; cases hv
        · exact z
      · rcases Nat.lt_or_ge b v with z | z
        · rw [ht.2.2 v z] at hv; cases hv
        · omega
    have htop : bi x (a0 + (b - a0)) = true := by rw [show a0 + (b - a0) = b by omega]; exact ht.2.1
    have hfb := bi_ushr x (k := a0) (by omega)
    have hct := fb_ct_le (bi x) 41
    have hmax : (if (4 : Int32) < nI (fb_ct (bi x) 41) then nI (fb_ct (bi x) 41) else (4 : Int32)) = nI (max 4 (fb_ct (bi x) 41)) := by
      by_cases c : 4 < fb_ct (bi x) 41
      · rw [if_pos (show (4 : Int32) < nI (fb_ct (bi x) 41) from nI_lt (a := 4) c (by omega)), Nat.max_eq_right (by omega)]
      · rw [if_neg (show ¬ (4 : Int32) < nI (fb_ct (bi x) 41) from nI_nlt (a := 4) (by omega) (by omega)), Nat.max_eq_left (by omega)]
        rfl
    rw [bd_eq (leastOf_eq hl)]
    simp only [lt_]
    rw [bd_eq (greatestOf_eq ht), gd_eq (by decide), bd_eq (bc_eq x), ct41 hx, hmax, pk_sub hab, show (80 : Int32) - nI a0 = nI (80 - a0) from pk_sub (a := 80) (by omega)]
    generalize hA : max 4 (fb_ct (bi x) 41) = A0
    have hA4 : 4 ≤ A0 := by omega
    have hA41 : A0 ≤ 41 := by omega
    have hAc : fb_ct (bi x) 41 ≤ A0 := by omega
    generalize (x.toUInt64 >>> ((nI a0).toInt64.toUInt64 &&& Int64.toUInt64 63)).toInt64 = fb2 at hfb ⊢
    have key := run_inv0 (step := sX0_seek_78 x fb2 (nI a0) (nI (b - a0)) (nI (80 - a0))) (82 - A0) (fun i q => q.1 = nI (A0 + i) ∧ ((q.2.1 = 0 ∧ ∀ d e m k, OKg (bi x) a0 d e m k → A0 + i ≤ m * k) ∨ (q.2.1 = 1 ∧ ∃ d e m k, q.2.2.1 = nI d ∧ q.2.2.2.1 = nI e ∧ q.2.2.2.2.1 = nI m ∧ q.2.2.2.2.2.1 = nI k ∧ BestG (bi x) a0 d e m k))) (fun t => ∃ fo2 fb2 ba2 sp2 wi2 h1 h2 h3 h4 g2, t = (fo2, x, fo2, fb2, ba2, sp2, wi2, h1, h2, h3, h4, g2) ∧ GD x a0 fo2 ba2 h1 h2 h3 h4) (by
      rintro i ⟨p, fo, f1, f2, f3, f4, g⟩ hi ⟨rfl, hI⟩
      have hI : (fo = 0 ∧ ∀ d e m k, OKg (bi x) a0 d e m k → A0 + i ≤ m * k) ∨ (fo = 1 ∧ ∃ d e m k, f1 = nI d ∧ f2 = nI e ∧ f3 = nI m ∧ f4 = nI k ∧ BestG (bi x) a0 d e m k) := hI
      show (∃ q2, bX0_seek_78 x fb2 (nI a0) (nI (b - a0)) (nI (80 - a0)) (nI (A0 + i)) fo f1 f2 f3 f4 g = _ ∧ _) ∨ (∃ t, bX0_seek_78 x fb2 (nI a0) (nI (b - a0)) (nI (80 - a0)) (nI (A0 + i)) fo f1 f2 f3 f4 g = _ ∧ _)
      unfold bX0_seek_78
      simp only [lt_]
      rw [brF (show ¬ (81 : Int32) < nI (A0 + i) from nI_nlt (a := 81) (by omega) (by omega))]
      rcases hI with ⟨rfl, hno⟩ | ⟨rfl, hB⟩
      · rw [brT rfl]
        obtain ⟨r, h1, h2, h3, h4, g3, se, sp⟩ := seekAr (x := x) (a0 := a0) (sp := b - a0) (by omega) (by omega) hlo htop hfb (ar := A0 + i) (by omega) (by omega) g f1 f2 f3 f4
        rw [bd_eq se]
        left
        rcases sp with ⟨rfl, hn⟩ | ⟨rfl, hF⟩
        · rw [gd_eq (Or.inl rfl)]
          refine ⟨_, rfl, nI_1 _, Or.inl ⟨rfl, fun d e m k ho => ?_⟩⟩
          have q1 := hno d e m k ho
          have q2 := hn d e m k ho
          omega
        · rw [gd_eq (Or.inr rfl)]
          refine ⟨_, rfl, nI_1 _, Or.inr ⟨rfl, ?_⟩⟩
          obtain ⟨d, e, m, k, q1, q2, q3, q4, ho, har, hmin⟩ := hF
          refine ⟨d, e, m, k, q1, q2, q3, q4, ho, fun d' e' m' k' ho' => ?_⟩
          have y1 := hno d' e' m' k' ho'
          by_cases y2 : m' * k' = A0 + i
          · exact key_le (by omega) (hmin d' e' m' k' ho' y2)
          · exact key_lt ho (by omega)
      · rw [brF (show ¬ (1 : Int32) = 0 by decide), gd_eq (by decide)]
        exact Or.inr ⟨_, rfl, _, _, _, _, _, _, _, _, _, _, rfl, rfl, Or.inr ⟨rfl, hB⟩⟩) (by
      rintro ⟨p, fo, f1, f2, f3, f4, g⟩ ⟨rfl, hI⟩
      have hI : (fo = 0 ∧ ∀ d e m k, OKg (bi x) a0 d e m k → A0 + (82 - A0) ≤ m * k) ∨ (fo = 1 ∧ ∃ d e m k, f1 = nI d ∧ f2 = nI e ∧ f3 = nI m ∧ f4 = nI k ∧ BestG (bi x) a0 d e m k) := hI
      show ∃ t, bX0_seek_78 x fb2 (nI a0) (nI (b - a0)) (nI (80 - a0)) (nI (A0 + (82 - A0))) fo f1 f2 f3 f4 g = _ ∧ _
      unfold bX0_seek_78
      rw [brT (show (81 : Int32) < nI (A0 + (82 - A0)) from nI_lt (a := 81) (by omega) (by omega))]
      rcases hI with ⟨rfl, hno⟩ | ⟨rfl, hB⟩
      · rw [gd_eq (by decide)]
        refine ⟨_, rfl, _, _, _, _, _, _, _, _, _, _, rfl, rfl, Or.inl ⟨rfl, fun d e m k ho => ?_⟩⟩
        have q1 := hno d e m k ho
        have q2 := ho.area_le
        omega
      · rw [gd_eq (by decide)]
        exact ⟨_, rfl, _, _, _, _, _, _, _, _, _, _, rfl, rfl, Or.inr ⟨rfl, hB⟩⟩) (q := (nI A0, (0 : Int32), f1, f2, f3, f4, g)) ⟨rfl, Or.inl ⟨rfl, fun d e m k ho => by
        have q1 := ho.area4
        have q2 := ho.area_ge
        omega⟩⟩
    obtain ⟨t, te, fo2, fb3, ba2, sp2, wi2, h1, h2, h3, h4, g2, rfl, hG⟩ := key
    exact ⟨fo2, fb3, ba2, sp2, wi2, h1, h2, h3, h4, g2, te, hG⟩
theorem p4 : (4 : Int64) = (4 : Int32).toInt64 := by decide
theorem core_grid {sl : Nat → Int64} {nw : Nat → Int32} (h : RS sl nw) {so : Int64} {fo ba f1 f2 f3 f4 : Int32} (hc : CG so fo ba f1 f2 f3 f4) (q w : Int32) (fb : Int64) (sp wi : Int32) (fa fi gr : Nat → Int32) :
    ∃ r so2 fo2 fb2 ba2 sp2 wi2 h1 h2 h3 h4 fa2 fi2 gr2, fX7_grid q w sl so fo fb ba sp wi f1 f2 f3 f4 fa = some (r, so2, fo2, fb2, ba2, sp2, wi2, h1, h2, h3, h4, fa2) ∧ fX8_grid q w nw fi gr = some (r, fi2, gr2) ∧ CG so2 fo2 ba2 h1 h2 h3 h4 := by
  rcases slot_cases q with ⟨j, hj, rfl⟩ | hq
  · by_cases hw : w < 0 ∨ 4 < w
    · refine ⟨-1, so, fo, fb, ba, sp, wi, f1, f2, f3, f4, fa, fi, gr, ?_, ?_, hc⟩
      · unfold fX7_grid
        rw [bd_eq (isSlot_in j hj), brF (by decide)]
        by_cases w0 : w < 0
        · rw [brT w0]
        · rw [brF w0, brF (Int32.not_le.mpr (hw.resolve_left w0))]
      · unfold fX8_grid
        rw [bd_eq (isSlot8_in j hj), brF (by decide), p0, p4, in8_dec, if_pos hw, bd_eq rfl, brT rfl]
    · have w0 : ¬ w < 0 := fun y => hw (Or.inl y)
      have w4 : w ≤ 4 := Int32.not_lt.mp (fun y => hw (Or.inr y))
      have hcn := cn_le sl j
      by_cases hz : cn sl j = 0
      · refine ⟨-2, so, fo, fb, ba, sp, wi, f1, f2, f3, f4, fa, lsF (bi (sl j)) fi 41, gr, ?_, ?_, hc⟩
        · unfold fX7_grid
          rw [bd_eq (isSlot_in j hj), brF (by decide), brF w0, brT w4, cl4 hj, g4 hj, brT ((cz_iff h hj).mpr hz)]
        · unfold fX8_grid
          rw [bd_eq (isSlot8_in j hj), brF (by decide), p0, p4, in8_dec, if_neg hw, bd_eq rfl, brF (by decide), bd_eq (lists8_eq h hj fi), brT (show nI (cn sl j) = 0 by rw [hz]; rfl)]
      · obtain ⟨a, b, a41, b41, ha, hb⟩ := h.ends hj hz
        have hx0 : sl j ≠ 0 := fun y => hz ((zero_iff h hj).mp y)
        obtain ⟨fo2, fb2, ba2, sp2, wi2, h1, h2, h3, h4, g2, se, hG⟩ := seek0 hx0 (h j hj).2 ha a41 hb b41 hc fb sp wi fa
        have hf0 : lsF (bi (sl j)) fi 41 0 = nI a := by
          have e := lsF_at (P := bi (sl j)) (to := fi) a41 ha.2.1
          rw [ct_first ha.2.2] at e; exact e
        have hmin : ∀ y, y < 41 → bi (sl j) y = true → a ≤ y := by
          intro y _ hy
          rcases Nat.lt_or_ge y a with z | z
          · rw [ha.2.2 y z] at hy; cases hy
          · exact z
        obtain ⟨r, gr2, fe, fg0, fp⟩ := findGrid8 (A := bi (sl j)) (fi := lsF (bi (sl j)) fi 41) (fun y h1 h2 => lsF_at h1 h2) (a0 := a) (by omega) hf0 hmin gr
        have e7 : fX7_grid (nI j) w sl so fo fb ba sp wi f1 f2 f3 f4 fa = br (fo2 = 0) (some ((-4 : Int32), sl j, fo2, fb2, ba2, sp2, wi2, h1, h2, h3, h4, g2)) (bd (fX0_answer w ba2 h1 h2 h3 h4) (fun u10 => some (u10, sl j, fo2, fb2, ba2, sp2, wi2, h1, h2, h3, h4, g2))) := by
          unfold fX7_grid
          rw [bd_eq (isSlot_in j hj), brF (by decide), brF w0, brT w4, cl4 hj, g4 hj, brF (fun z => hz ((cz_iff h hj).mp z)), g4 hj, bd_eq se]
        have e8 : fX8_grid (nI j) w nw fi gr = br (r = 0) (some ((-4 : Int32), lsF (bi (sl j)) fi 41, gr2)) (gd (¬ w < 0 ∧ w.toNatClampNeg < 5) (some (gr2 w.toNatClampNeg, lsF (bi (sl j)) fi 41, gr2))) := by
          unfold fX8_grid
          rw [bd_eq (isSlot8_in j hj), brF (by decide), p0, p4, in8_dec, if_neg hw, bd_eq rfl, brF (by decide), bd_eq (lists8_eq h hj fi), brF (nI_ne0 (by omega) (by omega))]
          show bd (fX8_findGrid (nI (fb_ct (bi (sl j)) 41)) (lsF (bi (sl j)) fi 41) gr) _ = _
          rw [bd_eq fe]
        rw [e7, e8]
        have hCG : CG (sl j) fo2 ba2 h1 h2 h3 h4 := Or.inr ⟨a, ha, hG⟩
        obtain ⟨hba, hGG⟩ := hG
        rcases hGG with ⟨hf, hn⟩ | ⟨hf, d, e, m, k, q1, q2, q3, q4, hB⟩
        · rcases fp with ⟨hr, _⟩ | ⟨_, d', e', m', k', _, _, _, _, hB'⟩
          · rw [brT hf, brT hr]
            exact ⟨_, _, _, _, _, _, _, _, _, _, _, _, _, _, rfl, rfl, hCG⟩
          · exact absurd hB'.1 (hn d' e' m' k')
        · rcases fp with ⟨_, hn'⟩ | ⟨hr, d', e', m', k', t1, t2, t3, t4, hB'⟩
          · exact absurd hB.1 (hn' d e m k)
          · rw [brF (show ¬ fo2 = 0 by rw [hf]; decide), brF (show ¬ r = 0 by rw [hr]; decide)]
            obtain ⟨y1, y2, y3, y4⟩ := hB.one hB'
            obtain ⟨j', j1, rfl⟩ := nI_of2 (x := w) (M := 4) (n := 4) (by decide) w0 w4
            rw [nI_clamp (by omega), gd_eq ⟨w0, by omega⟩]
            have ans : fX0_answer (nI j') ba2 h1 h2 h3 h4 = some (gr2 j') := by
              rw [q1, q2, q3, q4, hba, y1, y2, y3, y4]
              unfold fX0_answer
              rcases (show j' = 0 ∨ j' = 1 ∨ j' = 2 ∨ j' = 3 ∨ j' = 4 by omega) with rfl | rfl | rfl | rfl | rfl
              · rw [brT (by decide), fg0]
              · rw [brF (by decide), brT (by decide), t1]
              · rw [brF (by decide), brF (by decide), brT (by decide), t2]
              · rw [brF (by decide), brF (by decide), brF (by decide), brT (by decide), t3]
              · rw [brF (by decide), brF (by decide), brF (by decide), brF (by decide), t4]
            rw [bd_eq ans]
            exact ⟨_, _, _, _, _, _, _, _, _, _, _, _, _, _, rfl, rfl, hCG⟩
  · refine ⟨-1, so, fo, fb, ba, sp, wi, f1, f2, f3, f4, fa, fi, gr, ?_, ?_, hc⟩
    · unfold fX7_grid
      rw [bd_eq (isSlot_out hq), brT rfl]
    · unfold fX8_grid
      rw [bd_eq (isSlot8_out hq), brT rfl]
