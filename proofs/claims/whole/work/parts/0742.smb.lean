theorem bct {s : Nat} (hs : s < 2 ^ 32) : fJ6_bitCount_0f7a4 (nI s) = some (nI (fb_ct s.testBit 32)) := by rw [bc32N hs, pc_ct]
theorem betweens7 : ∀ l, l < 15 → fX4_betweens (nI l) = some (nI (Bn l)) ∧ Bn l ≤ 8192 ∧ 2 * 2 ^ l ≤ 32768 := by decide +kernel
theorem or_odd (b : Nat) : 1 ||| (b * 2 ^ 1) = 1 + 2 * b := by
  have h := Nat.two_pow_add_eq_or_of_lt (i := 1) (b := 1) (by omega) b
  rw [Nat.or_comm, Nat.mul_comm b, ← h]; omega
theorem setWith7 {l b : Nat} (hl : l < 15) (hb : b < Bn l) : fX4_setWith (nI b) (nI l) = some (nI (stw l b)) := by
  obtain ⟨_, h2, h3⟩ := betweens7 l hl
  unfold fX4_setWith
  have e1 : nI b <<< ((1 : Int32) &&& 31) = nI (b * 2 ^ 1) := shl (i := 1) (by omega) (by omega)
  have e2 : (1 : Int32) <<< (nI l &&& 31) = nI (1 * 2 ^ l) := shl (s := 1) (by omega) (by omega)
  rw [e1, e2, show (1 : Int32) = nI 1 from rfl, fa_or, fa_or, or_odd, Nat.one_mul]
  congr 2
  unfold stw
  unfold Bn at hb
  by_cases e : l = 0
  · subst e
    simp only [if_true] at hb ⊢
    rw [show b = 0 by omega]; rfl
  · simp only [if_neg e] at hb ⊢
    have e3 := two_l e
    have h := Nat.two_pow_add_eq_or_of_lt (i := l) (b := 1 + 2 * b) (by omega) 1
    rw [Nat.or_comm]
    rw [Nat.mul_one] at h
    rw [← h]; omega
theorem ofS_iff {n s : Nat} : nI (fb_ct s.testBit 32) = nI n ↔ (n < 2 ^ 31 → ofS n s = true) ∧ (nI (fb_ct s.testBit 32) = nI n) := by
  constructor
  · intro h
    refine ⟨fun hn => ?_, h⟩
    unfold ofS
    have := fb_ct_le s.testBit 32
    rw [decide_eq_true_iff]
    exact (nI_eq (by omega) hn).mp h
  · intro h; exact h.2
theorem size_eq {n s : Nat} (hn : n < 2 ^ 31) : nI (fb_ct s.testBit 32) = nI n ↔ ofS n s = true := by
  unfold ofS
  have := fb_ct_le s.testBit 32
  rw [decide_eq_true_iff]
  exact nI_eq (by omega) hn
theorem countIn7 {g z f : Nat} (hg : g ≤ 32) (hz : z ≤ 8192) (hf : f ≤ 1000) (hzf : z = 0 → f = 1000) {fw : Int32} (hfw : 0 < z → fw = nI f) : fX4_countIn (nI g) fw (nI z) = some (if g < f then (nI g, nI 1) else if g = f then (nI f, nI (z + 1)) else (nI f, nI z)) := by
  unfold fX4_countIn bX4_countIn_15 bX4_countIn_25
  simp only [lt_]
  by_cases e : z = 0
  · rw [brT (show nI z = 0 by rw [e]; rfl), brT trivial, if_pos (by have := hzf e; omega)]; rfl
  · rw [brF (nI_ne0 (by omega) (by omega)), hfw (by omega)]
    by_cases h : f ≤ g
    · rw [brT (nI_le h (by omega)), if_neg (by omega)]
      by_cases e2 : g = f
      · rw [brT (by rw [e2]), if_pos e2, nI_1]
      · rw [brF (fun y => e2 ((nI_eq (by omega) (by omega)).mp y)), if_neg e2]
    · rw [brF (nI_ge (by omega) (by omega)), brT trivial, if_pos (by omega)]; rfl
theorem cf1_le (n l : Nat) : ∀ b, (cf n l b).1 ≤ 1000 := by
  intro b
  induction b with
  | zero => exact Nat.le_refl _
  | succ b ih =>
    have ho := own_le (stw l b) l
    show (if _ then (if _ then _ else if _ then _ else _) else cf n l b : Nat × Nat).1 ≤ 1000
    by_cases hv : ofS n (stw l b) = true
    · rw [if_pos hv]
      by_cases h1 : own (stw l b) l < (cf n l b).1
      · rw [if_pos h1]; show own _ _ ≤ _; omega
      · rw [if_neg h1]
        by_cases h2 : own (stw l b) l = (cf n l b).1
        · rw [if_pos h2]; exact ih
        · rw [if_neg h2]; exact ih
    · rw [if_neg hv]; exact ih
theorem seek7 {n l : Nat} (h : tld n l) (f0 : Int32) : run (sX4_seek_34 (nI n) (nI l)) ((0 : Int32), f0, (0 : Int32)) = some (nI n, nI l, nI (cf n l (Bn l)).1, nI (cf n l (Bn l)).2) := by
  have hl : l < 15 := by unfold tld at h; omega
  have hn : n < 9 := by unfold tld at h; omega
  obtain ⟨b1, b2, b3⟩ := betweens7 l hl
  have hp := cf_pos h
  refine run_val ?_
  refine run_inv0 (step := sX4_seek_34 (nI n) (nI l)) (Bn l) (fun i q => q.1 = nI i ∧ q.2.2 = nI (cf n l i).2 ∧ (0 < (cf n l i).2 → q.2.1 = nI (cf n l i).1)) _ ?_ ?_ ⟨rfl, rfl, fun y => absurd y (by show ¬ 0 < 0; omega)⟩
  · rintro i ⟨x, fw, z⟩ hi ⟨rfl, rfl, hf⟩
    show (∃ q2, bX4_seek_34 (nI n) (nI l) (nI i) fw (nI (cf n l i).2) = _ ∧ _) ∨ _
    have hf : 0 < (cf n l i).2 → fw = nI (cf n l i).1 := hf
    have hs := (bn_stw hi).2.2
    have hok := cf_ok n l i
    have ho := own_le (stw l i) l
    unfold bX4_seek_34 bX4_seek_71
    simp only [lt_]
    rw [bd_eq b1, brF (nI_ge hi (by omega)), bd_eq (setWith7 hl hi), bd_eq (bct (by omega)), bd_eq (own7 (by omega) (by omega)), bd_eq (countIn7 ho (by omega) (cf1_le n l i) hok.2.2.1 hf)]
    have es : cf n l (i + 1) = if ofS n (stw l i) then (if own (stw l i) l < (cf n l i).1 then (own (stw l i) l, 1) else if own (stw l i) l = (cf n l i).1 then ((cf n l i).1, (cf n l i).2 + 1) else cf n l i) else cf n l i := rfl
    by_cases hv : ofS n (stw l i) = true
    · rw [brT ((size_eq (by omega)).mpr hv)]
      refine Or.inl ⟨_, rfl, nI_1 i, ?_⟩
      rw [es, if_pos hv]
      by_cases h1 : own (stw l i) l < (cf n l i).1
      · simp only [if_pos h1]; exact ⟨trivial, fun _ => trivial⟩
      · by_cases h2 : own (stw l i) l = (cf n l i).1
        · simp only [if_neg h1, if_pos h2]; exact ⟨trivial, fun _ => trivial⟩
        · simp only [if_neg h1, if_neg h2]; exact ⟨trivial, fun _ => trivial⟩
    · rw [brF (fun y => hv ((size_eq (by omega)).mp y))]
      refine Or.inl ⟨_, rfl, nI_1 i, ?_⟩
      rw [es, if_neg hv]
      exact ⟨rfl, hf⟩
  · rintro ⟨x, fw, z⟩ ⟨rfl, rfl, hf⟩
    show ∃ t, bX4_seek_34 (nI n) (nI l) (nI (Bn l)) fw (nI (cf n l (Bn l)).2) = _ ∧ _
    have hf : fw = nI (cf n l (Bn l)).1 := hf hp
    unfold bX4_seek_34
    rw [bd_eq b1, brT (Int32.le_refl _), hf]
    exact ⟨_, rfl, rfl⟩
theorem setAt7 {n l i b : Nat} (h : tld n l) {f z : Nat} (hf : f ≤ 1000) (hz : z ≤ 8192) (hi : i < z) (hb : b < Bn l) (hm : mn n l f b = true) (hc : fb_ct (mn n l f) b = i) : fX4_setAt (nI i) (nI n) (nI l) (nI f) (nI z) = some (nI (stw l b)) := by
  have hl : l < 15 := by unfold tld at h; omega
  have hn : n < 9 := by unfold tld at h; omega
  obtain ⟨b1, b2, b3⟩ := betweens7 l hl
  unfold fX4_setAt
  rw [brF (nI_pos (by omega)), brT (nI_lt hi (by omega))]
  refine run_val ?_
  refine run_inv0 (step := sX4_setAt_19 (nI i) (nI n) (nI l) (nI f) (nI z)) b (fun j q => q = (nI (fb_ct (mn n l f) j), nI j)) _ ?_ ?_ rfl
  · rintro j q hj rfl
    show (∃ q2, bX4_setAt_19 (nI i) (nI n) (nI l) (nI f) (nI z) (nI (fb_ct (mn n l f) j)) (nI j) = _ ∧ _) ∨ _
    have hjB : j < Bn l := by omega
    have hs := (bn_stw hjB).2.2
    have ho := own_le (stw l j) l
    have hct := fb_ct_le (mn n l f) j
    unfold bX4_setAt_19 bX4_setAt_70
    simp only [lt_]
    rw [bd_eq b1, brF (nI_ge hjB (by omega)), bd_eq (setWith7 hl hjB), bd_eq (bct (by omega)), bd_eq (own7 (by omega) (by omega)), fb_ct_succ (mn n l f)]
    by_cases hv : ofS n (stw l j) = true
    · rw [brT ((size_eq (by omega)).mpr hv)]
      by_cases ho2 : own (stw l j) l = f
      · have hmj : mn n l f j = true := by unfold mn; rw [hv, ho2]; simp
        have hlt : fb_ct (mn n l f) j < fb_ct (mn n l f) b := ct_lt hj hmj
        rw [brT (by rw [ho2]), brF (fun y => by rw [nI_eq (by omega) (by omega)] at y; omega), if_pos hmj]
        exact Or.inl ⟨_, rfl, by rw [nI_1, nI_1]⟩
      · rw [brF (fun y => ho2 ((nI_eq (by omega) (by omega)).mp y)), if_neg (by unfold mn; rw [decide_eq_false ho2, Bool.and_false]; decide)]
        exact Or.inl ⟨_, rfl, by rw [nI_1]; rfl⟩
    · rw [brF (fun y => hv ((size_eq (by omega)).mp y)), if_neg (by unfold mn; rw [show ofS n (stw l j) = false by simpa using hv, Bool.false_and]; decide)]
      exact Or.inl ⟨_, rfl, by rw [nI_1]; rfl⟩
  · rintro q rfl
    show ∃ t, bX4_setAt_19 (nI i) (nI n) (nI l) (nI f) (nI z) (nI (fb_ct (mn n l f) b)) (nI b) = _ ∧ _
    have hs := (bn_stw hb).2.2
    have ho := own_le (stw l b) l
    unfold mn at hm
    rw [Bool.and_eq_true, decide_eq_true_iff] at hm
    unfold bX4_setAt_19
    rw [bd_eq b1, brF (nI_ge hb (by omega)), bd_eq (setWith7 hl hb), bd_eq (bct (by omega)), bd_eq (own7 (by omega) (by omega)), brT ((size_eq (by omega)).mpr hm.1), brT (by rw [hm.2]), brT (by rw [hc])]
    exact ⟨_, rfl, rfl⟩
theorem isOf8 {n l s : Nat} (hn : n < 9) (hl : l < 15) (hs : s < 2 ^ (l + 1)) : fX8_isOfSize (nI s) (nI n) (nI l) = some (if ofS n s && odt l s then 1 else 0) := by
  obtain ⟨b1, b2, b3⟩ := betweens7 l hl
  have hs2 : s < 2 ^ 32 := by rw [Nat.pow_succ] at hs; omega
  have e32 : fb_ct s.testBit 32 = fb_ct s.testBit (l + 1) := by
    have h32 := fb_ct_split s.testBit (l + 1) (32 - (l + 1))
    rw [show (l + 1) + (32 - (l + 1)) = 32 by omega] at h32
    have e : fb_ct (fun k => s.testBit (l + 1 + k)) (32 - (l + 1)) = 0 := fb_ct_zero.mpr (fun k _ => Nat.testBit_lt_two_pow (Nat.lt_of_lt_of_le hs (Nat.pow_le_pow_right (by omega) (by omega))))
    rw [h32, e, Nat.add_zero]
  unfold fX8_isOfSize
  refine run_val ?_
  refine run_inv0 (step := sX8_isOfSize_5 (nI s) (nI n) (nI l)) (l + 1) (fun i q => q = (nI (fb_ct s.testBit i), nI i)) _ ?_ ?_ rfl
  · rintro i q hi rfl
    show (∃ q2, bX8_isOfSize_5 (nI s) (nI n) (nI l) (nI (fb_ct s.testBit i)) (nI i) = _ ∧ _) ∨ _
    unfold bX8_isOfSize_5
    simp only [lt_]
    rw [brF (nI_nlt (by omega) (by omega)), sb hs2 (by omega), nI_add, nI_1]
    exact Or.inl ⟨_, rfl, rfl⟩
  · rintro q rfl
    show ∃ t, bX8_isOfSize_5 (nI s) (nI n) (nI l) (nI (fb_ct s.testBit (l + 1))) (nI (l + 1)) = _ ∧ _
    unfold bX8_isOfSize_5 bX8_isOfSize_51
    have e0 : nI s &&& 1 = nI (if s.testBit 0 then 1 else 0) := and1 (bt_nI hs2)
    rw [brT (nI_lt (by omega) (by omega)), ← e32, e0, sb hs2 (by omega)]
    simp only [gd_eq (Or.inl rfl : (0 : Int32) = 0 ∨ (0 : Int32) = 1), gd_eq (Or.inr rfl : (1 : Int32) = 0 ∨ (1 : Int32) = 1)]
    by_cases h1 : ofS n s = true
    · rw [brT ((size_eq (by omega)).mpr h1), h1, Bool.true_and]
      unfold odt
      by_cases h2 : s.testBit 0 = true
      · rw [brT (b1_1.mpr h2), h2, Bool.true_and]
        by_cases h3 : s.testBit l = true
        · rw [brT (b1_1.mpr h3), h3]
          exact ⟨_, rfl, rfl⟩
        · rw [brF (fun y => h3 (b1_1.mp y)), if_neg h3]
          exact ⟨_, rfl, rfl⟩
      · rw [brF (fun y => h2 (b1_1.mp y)), if_neg (by rw [show s.testBit 0 = false by simpa using h2]; simp)]
        exact ⟨_, rfl, rfl⟩
    · rw [brF (fun y => h1 ((size_eq (by omega)).mp y)), if_neg (by rw [show ofS n s = false by simpa using h1]; simp)]
      exact ⟨_, rfl, rfl⟩
