/-! the class's search of a pairing: numbers joined and parted -/
def cA (f : Nat → Nat) (i s m : Nat) : Nat := fb_ct (fun j => decide (f i + f j = s)) m
def uA (f : Nat → Nat) (a s : Nat) : Nat := fb_sm (fun i => cA f i s (i + 1)) a
def Pin (a m i j : Nat) : Prop := (i < a ∧ j ≤ i) ∨ (i = a ∧ j < m)
theorem cA_succ (f : Nat → Nat) (i s m : Nat) : cA f i s (m + 1) = cA f i s m + if f i + f m = s then 1 else 0 := by
  unfold cA
  rw [fb_ct_succ]
  by_cases h : f i + f m = s
  · rw [if_pos h, if_pos (by rw [decide_eq_true h])]
  · rw [if_neg h, if_neg (by rw [decide_eq_false h]; decide)]
theorem sm_pos {f : Nat → Nat} : ∀ {n : Nat}, 0 < fb_sm f n → ∃ k, k < n ∧ 0 < f k := by
  intro n
  induction n with
  | zero => intro h; exact absurd h (Nat.lt_irrefl 0)
  | succ n ih =>
    intro h
    rw [fb_sm_succ] at h
    by_cases e : 0 < f n
    · exact ⟨n, by omega, e⟩
    · obtain ⟨k, k1, k2⟩ := ih (by omega)
      exact ⟨k, by omega, k2⟩
theorem cA_pos {f : Nat → Nat} {i s m : Nat} : 0 < cA f i s m ↔ ∃ j, j < m ∧ f i + f j = s := by
  unfold cA
  rw [fb_ct_pos]
  constructor
  · rintro ⟨j, j1, j2⟩; exact ⟨j, j1, of_decide_eq_true j2⟩
  · rintro ⟨j, j1, j2⟩; exact ⟨j, j1, decide_eq_true j2⟩
theorem uA_pos {f : Nat → Nat} {a s m : Nat} : 0 < uA f a s + cA f a s m ↔ ∃ i j, Pin a m i j ∧ f i + f j = s := by
  constructor
  · intro h
    by_cases e : 0 < uA f a s
    · obtain ⟨i, i1, i2⟩ := sm_pos e
      obtain ⟨j, j1, j2⟩ := cA_pos.mp i2
      exact ⟨i, j, Or.inl ⟨i1, by omega⟩, j2⟩
    · obtain ⟨j, j1, j2⟩ := cA_pos.mp (show 0 < cA f a s m by omega)
      exact ⟨a, j, Or.inr ⟨rfl, j1⟩, j2⟩
  · rintro ⟨i, j, h | h, e⟩
    · have h1 : 0 < cA f i s (i + 1) := cA_pos.mpr ⟨j, by omega, e⟩
      have h2 := fb_sm_part (fun i => cA f i s (i + 1)) h.1
      have h2 : fb_sm (fun i => cA f i s (i + 1)) i + cA f i s (i + 1) ≤ uA f a s := h2
      omega
    · have h1 : 0 < cA f a s m := cA_pos.mpr ⟨j, h.2, by rw [← h.1]; exact e⟩
      omega
theorem cA_le (f : Nat → Nat) (i s m : Nat) : cA f i s m ≤ m := fb_ct_le _ _
theorem uA_le {f : Nat → Nat} {a s : Nat} (h : a ≤ 7) : uA f a s ≤ 49 := by
  have h1 : uA f a s ≤ a * 7 := fb_sm_bound (fun k hk => Nat.le_trans (cA_le f k s (k + 1)) (by omega))
  omega
theorem uA_cong {f g : Nat → Nat} {a s : Nat} (h : ∀ i, i < a → f i = g i) : uA f a s = uA g a s := fb_sm_cong (fun k hk => fb_ct_cong (fun j hj => by rw [h k hk, h j (by omega)]))
def US (f : Nat → Nat) (a m : Nat) (us : Nat → Int32) : Prop := ∀ s, s < 81 → us s = nI (uA f a s + cA f a s m)
def TH (f b : Nat → Nat) (a m : Nat) (th bk : Nat → Int32) : Prop := ∀ i j, Pin a m i j → th (f i + f j) = nI (b i + b j) ∧ bk (b i + b j) = nI (f i + f j)
theorem US.cong0 {f g : Nat → Nat} {a : Nat} {us : Nat → Int32} (h : US f a 0 us) (e : ∀ i, i < a → f i = g i) : US g a 0 us := fun s hs => by
  rw [h s hs, uA_cong e]
  rfl
theorem TH.cong0 {f b c : Nat → Nat} {a : Nat} {th bk : Nat → Int32} (h : TH f b a 0 th bk) (e : ∀ i, i < a → b i = c i) : TH f c a 0 th bk := fun i j hp => by
  have hp' : i < a ∧ j ≤ i := hp.elim id (fun z => absurd z.2 (by omega))
  rw [← e i hp'.1, ← e j (by omega)]
  exact h i j hp
theorem TH.less {f b : Nat → Nat} {a m : Nat} {th bk : Nat → Int32} (h : TH f b a m th bk) : TH f b a 0 th bk := fun i j hp => h i j (by
  rcases hp with z | z
  · exact Or.inl z
  · exact absurd z.2 (by omega))
theorem TH.up {f b : Nat → Nat} {a : Nat} {th bk : Nat → Int32} : TH f b a (a + 1) th bk ↔ TH f b (a + 1) 0 th bk := by
  constructor
  · intro h i j hp
    refine h i j ?_
    rcases hp with z | z
    · by_cases e : i = a
      · exact Or.inr ⟨e, by omega⟩
      · exact Or.inl ⟨by omega, z.2⟩
    · exact absurd z.2 (by omega)
  · intro h i j hp
    refine h i j (Or.inl ?_)
    rcases hp with z | z <;> omega
theorem join21 {as bs o : Nat → Nat} {n a : Nat} (h7 : n ≤ 7) (ha : a < n) {fi se ch : Nat → Int32} (hf : ∀ i, i < n → fi i = nI (as i)) (hfa : ∀ i, i < n → as i < 41) (hs : ∀ i, i < n → se i = nI (bs i)) (hsb : ∀ i, i < n → bs i < 41) (ho : ∀ i, i ≤ a → o i < n) (hch : ∀ i, i ≤ a → ch i = nI (o i)) (tk : Int32) {th bk us pu : Nat → Int32} (hU : US as a 0 us) (hP : US (fun i => bs (o i)) a 0 pu) (hT : TH as (fun i => bs (o i)) a 0 th bk) :
    ∃ m th2 bk2 us2 pu2, run (sX2_join_21 (nI a) (nI (o a)) tk fi se ch) ((0 : Int32), th, bk, us, pu) = some (nI m, tk, ch, th2, bk2, us2, pu2) ∧ m ≤ a + 1 ∧ US as a m us2 ∧ US (fun i => bs (o i)) a m pu2 ∧ TH as (fun i => bs (o i)) a m th2 bk2 ∧ (m ≤ a → ∃ i j, i ≤ a ∧ j ≤ a ∧ ¬ (as i + as j = as a + as m ↔ bs (o i) + bs (o j) = bs (o a) + bs (o m))) := by
  have key := run_inv0 (step := sX2_join_21 (nI a) (nI (o a)) tk fi se ch) (a + 1) (fun m q => q.1 = nI m ∧ US as a m q.2.2.2.1 ∧ US (fun i => bs (o i)) a m q.2.2.2.2 ∧ TH as (fun i => bs (o i)) a m q.2.1 q.2.2.1) (fun t => ∃ m th2 bk2 us2 pu2, t = (nI m, tk, ch, th2, bk2, us2, pu2) ∧ m ≤ a + 1 ∧ US as a m us2 ∧ US (fun i => bs (o i)) a m pu2 ∧ TH as (fun i => bs (o i)) a m th2 bk2 ∧ (m ≤ a → ∃ i j, i ≤ a ∧ j ≤ a ∧ ¬ (as i + as j = as a + as m ↔ bs (o i) + bs (o j) = bs (o a) + bs (o m)))) (by
    rintro m ⟨v, th, bk, us, pu⟩ hm ⟨rfl, hU, hP, hT⟩
    have hU : US as a m us := hU
    have hP : US (fun i => bs (o i)) a m pu := hP
    have hT : TH as (fun i => bs (o i)) a m th bk := hT
    have f1 := hfa a ha
    have f2 := hfa m (by omega)
    have o1 := ho a (by omega)
    have o2 := ho m (by omega)
    have b1 := hsb _ o1
    have b2 := hsb _ o2
    generalize es : as a + as m = s
    generalize et : bs (o a) + bs (o m) = t
    have hs81 : s < 81 := by omega
    have ht81 : t < 81 := by omega
    have u49 := uA_le (f := as) (a := a) (s := s) (by omega)
    have u49' := uA_le (f := fun i => bs (o i)) (a := a) (s := t) (by omega)
    have cm := cA_le as a s m
    have cm' := cA_le (fun i => bs (o i)) a t m
    have inA : ∀ i j, Pin a m i j → i ≤ a ∧ j ≤ a := by
      rintro i j (z | z) <;> omega
    have head : bX2_join_21 (nI a) (nI (o a)) tk fi se ch (nI m) th bk us pu = br (us s ≤ 0) (bX2_join_83 (nI a) (nI (o a)) (nI m) (nI s) (nI t) tk fi se ch th bk us pu) (br (th s = nI t) (bX2_join_83 (nI a) (nI (o a)) (nI m) (nI s) (nI t) tk fi se ch th bk us pu) (some (.inr (nI m, tk, ch, th, bk, us, pu)))) := by
      unfold bX2_join_21
      simp only [lt_]
      rw [brF (nI_nlt (by omega) (by omega)), nI_clamp (show a < 2 ^ 31 by omega), nI_clamp (show m < 2 ^ 31 by omega), nI_clamp (show o a < 2 ^ 31 by omega), hch m (by omega), nI_clamp (show o m < 2 ^ 31 by omega), hf a ha, hf m (by omega), hs _ o1, hs _ o2, nI_add, nI_add, es, et, nI_clamp (show s < 2 ^ 31 by omega), gd_eq ⟨nI_pos (by omega), by omega⟩, gd_eq ⟨nI_pos (by omega), by omega⟩, gd_eq ⟨nI_pos (by omega), by omega⟩, gd_eq ⟨nI_pos (by omega), by omega⟩, gd_eq ⟨nI_pos (by omega), by omega⟩, gd_eq ⟨nI_pos (by omega), by omega⟩, gd_eq ⟨nI_pos (by omega), by omega⟩]
    have h83 : bX2_join_83 (nI a) (nI (o a)) (nI m) (nI s) (nI t) tk fi se ch th bk us pu = br (pu t ≤ 0) (some (.inl (nI (m + 1), upd th s (nI t), upd bk t (nI s), upd us s (us s + 1), upd pu t (pu t + 1)))) (br (bk t = nI s) (some (.inl (nI (m + 1), upd th s (nI t), upd bk t (nI s), upd us s (us s + 1), upd pu t (pu t + 1)))) (some (.inr (nI m, tk, ch, th, bk, us, pu)))) := by
      unfold bX2_join_83 bX2_join_107
      simp only [lt_]
      rw [nI_clamp (show s < 2 ^ 31 by omega), nI_clamp (show t < 2 ^ 31 by omega), gd_eq ⟨nI_pos (by omega), by omega⟩, gd_eq ⟨nI_pos (by omega), by omega⟩, gd_eq ⟨nI_pos (by omega), by omega⟩, gd_eq ⟨nI_pos (by omega), by omega⟩, gd_eq ⟨nI_pos (by omega), by omega⟩, gd_eq ⟨nI_pos (by omega), by omega⟩, gd_eq ⟨nI_pos (by omega), by omega⟩, gd_eq ⟨nI_pos (by omega), by omega⟩, nI_1]
    show (∃ q2, bX2_join_21 (nI a) (nI (o a)) tk fi se ch (nI m) th bk us pu = _ ∧ _) ∨ (∃ t, bX2_join_21 (nI a) (nI (o a)) tk fi se ch (nI m) th bk us pu = _ ∧ _)
    have fail : (∃ i j, i ≤ a ∧ j ≤ a ∧ ¬ (as i + as j = as a + as m ↔ bs (o i) + bs (o j) = bs (o a) + bs (o m))) → ∃ t, (some (.inr (nI m, tk, ch, th, bk, us, pu)) : Option ((Int32 × (Nat → Int32) × (Nat → Int32) × (Nat → Int32) × (Nat → Int32)) ⊕ (Int32 × Int32 × (Nat → Int32) × (Nat → Int32) × (Nat → Int32) × (Nat → Int32) × (Nat → Int32)))) = some (.inr t) ∧ (∃ m th2 bk2 us2 pu2, t = (nI m, tk, ch, th2, bk2, us2, pu2) ∧ m ≤ a + 1 ∧ US as a m us2 ∧ US (fun i => bs (o i)) a m pu2 ∧ TH as (fun i => bs (o i)) a m th2 bk2 ∧ (m ≤ a → ∃ i j, i ≤ a ∧ j ≤ a ∧ ¬ (as i + as j = as a + as m ↔ bs (o i) + bs (o j) = bs (o a) + bs (o m)))) := fun h => ⟨_, rfl, m, th, bk, us, pu, rfl, by omega, hU, hP, hT, fun _ => h⟩
    have cont : (0 < uA as a s + cA as a s m → th s = nI t) → (0 < uA (fun i => bs (o i)) a t + cA (fun i => bs (o i)) a t m → bk t = nI s) → nI (m + 1) = nI (m + 1) ∧ US as a (m + 1) (upd us s (us s + 1)) ∧ US (fun i => bs (o i)) a (m + 1) (upd pu t (pu t + 1)) ∧ TH as (fun i => bs (o i)) a (m + 1) (upd th s (nI t)) (upd bk t (nI s)) := by
      intro c1 c2
      refine ⟨rfl, fun s' hs' => ?_, fun t' ht' => ?_, fun i j hp => ?_⟩
      · rw [cA_succ, es]
        by_cases e : s' = s
        · rw [e, pk_us, hU s hs81, nI_1, if_pos rfl, Nat.add_assoc]
        · rw [pk_un e, hU s' hs', if_neg (fun z => e z.symm), Nat.add_zero]
      · rw [cA_succ]
        show _ = nI (_ + (_ + if bs (o a) + bs (o m) = t' then 1 else 0))
        rw [et]
        by_cases e : t' = t
        · rw [e, pk_us, hP t ht81, nI_1, if_pos rfl, Nat.add_assoc]
        · rw [pk_un e, hP t' ht', if_neg (fun z => e z.symm), Nat.add_zero]
      · show upd th s (nI t) (as i + as j) = nI (bs (o i) + bs (o j)) ∧ upd bk t (nI s) (bs (o i) + bs (o j)) = nI (as i + as j)
        by_cases e : i = a ∧ j = m
        · rw [e.1, e.2, es, et]
          exact ⟨pk_us, pk_us⟩
        · have hp2 : Pin a m i j := by
            rcases hp with z | z
            · exact Or.inl z
            · exact Or.inr ⟨z.1, by omega⟩
          obtain ⟨y1, y2⟩ := hT i j hp2
          have y1 : th (as i + as j) = nI (bs (o i) + bs (o j)) := y1
          have y2 : bk (bs (o i) + bs (o j)) = nI (as i + as j) := y2
          refine ⟨?_, ?_⟩
          · by_cases e1 : as i + as j = s
            · rw [e1] at y1 ⊢
              rw [pk_us, ← c1 (uA_pos.mpr ⟨i, j, hp2, e1⟩), y1]
            · rw [pk_un e1]; exact y1
          · by_cases e1 : bs (o i) + bs (o j) = t
            · rw [e1] at y2 ⊢
              rw [pk_us, ← c2 (uA_pos.mpr ⟨i, j, hp2, e1⟩), y2]
            · rw [pk_un e1]; exact y2
    have second : (0 < uA as a s + cA as a s m → th s = nI t) → (∃ q2, bX2_join_83 (nI a) (nI (o a)) (nI m) (nI s) (nI t) tk fi se ch th bk us pu = some (.inl q2) ∧ (q2.1 = nI (m + 1) ∧ US as a (m + 1) q2.2.2.2.1 ∧ US (fun i => bs (o i)) a (m + 1) q2.2.2.2.2 ∧ TH as (fun i => bs (o i)) a (m + 1) q2.2.1 q2.2.2.1)) ∨ (∃ t', bX2_join_83 (nI a) (nI (o a)) (nI m) (nI s) (nI t) tk fi se ch th bk us pu = some (.inr t') ∧ (∃ m th2 bk2 us2 pu2, t' = (nI m, tk, ch, th2, bk2, us2, pu2) ∧ m ≤ a + 1 ∧ US as a m us2 ∧ US (fun i => bs (o i)) a m pu2 ∧ TH as (fun i => bs (o i)) a m th2 bk2 ∧ (m ≤ a → ∃ i j, i ≤ a ∧ j ≤ a ∧ ¬ (as i + as j = as a + as m ↔ bs (o i) + bs (o j) = bs (o a) + bs (o m))))) := by
      intro c1
      rw [h83, hP t ht81]
      by_cases z : uA (fun i => bs (o i)) a t + cA (fun i => bs (o i)) a t m = 0
      · rw [z, brT (by decide)]
        have := cont c1 (fun y => absurd y (by omega))
        rw [hP t ht81, z] at this
        exact Or.inl ⟨_, rfl, this⟩
      · rw [brF (nI_nle (by omega) (by omega))]
        by_cases c2 : bk t = nI s
        · rw [brT c2]
          have := cont c1 (fun _ => c2)
          rw [hP t ht81] at this
          exact Or.inl ⟨_, rfl, this⟩
        · rw [brF c2]
          refine Or.inr (fail ?_)
          obtain ⟨i, j, hp, e⟩ := uA_pos.mp (show 0 < uA (fun i => bs (o i)) a t + cA (fun i => bs (o i)) a t m by omega)
          have e : bs (o i) + bs (o j) = t := e
          have y : bk (bs (o i) + bs (o j)) = nI (as i + as j) := (hT i j hp).2
          refine ⟨i, j, (inA i j hp).1, (inA i j hp).2, fun hiff => c2 ?_⟩
          rw [es, et] at hiff
          rw [e, hiff.mpr e] at y
          exact y
    rw [head, hU s hs81]
    by_cases z : uA as a s + cA as a s m = 0
    · rw [z, brT (by decide)]
      exact second (fun y => absurd y (by omega))
    · rw [brF (nI_nle (by omega) (by omega))]
      by_cases c1 : th s = nI t
      · rw [brT c1]
        exact second (fun _ => c1)
      · rw [brF c1]
        refine Or.inr (fail ?_)
        obtain ⟨i, j, hp, e⟩ := uA_pos.mp (show 0 < uA as a s + cA as a s m by omega)
        have y : th (as i + as j) = nI (bs (o i) + bs (o j)) := (hT i j hp).1
        refine ⟨i, j, (inA i j hp).1, (inA i j hp).2, fun hiff => c1 ?_⟩
        rw [es, et] at hiff
        rw [e, hiff.mp e] at y
        exact y) (by
    rintro ⟨v, th, bk, us, pu⟩ ⟨rfl, hU, hP, hT⟩
    show ∃ t, bX2_join_21 (nI a) (nI (o a)) tk fi se ch (nI (a + 1)) th bk us pu = _ ∧ _
    unfold bX2_join_21
    rw [brT (nI_lt (by omega) (by omega)), nI_1]
    exact ⟨_, rfl, a + 1, th, bk, us, pu, rfl, Nat.le_refl _, hU, hP, hT, fun z => absurd z (by omega)⟩) (q := ((0 : Int32), th, bk, us, pu)) ⟨rfl, hU, hP, hT⟩
  obtain ⟨t, r, m, th2, bk2, us2, pu2, rfl, rest⟩ := key
  exact ⟨m, th2, bk2, us2, pu2, r, rest⟩
theorem part24 {as bs o : Nat → Nat} {n a m0 : Nat} (h7 : n ≤ 7) (ha : a < n) {fi se ch : Nat → Int32} (hf : ∀ i, i < n → fi i = nI (as i)) (hfa : ∀ i, i < n → as i < 41) (hs : ∀ i, i < n → se i = nI (bs i)) (hsb : ∀ i, i < n → bs i < 41) (ho : ∀ i, i ≤ a → o i < n) (hch : ∀ i, i ≤ a → ch i = nI (o i)) (hm0 : m0 ≤ a + 1) (tk : Int32) {us pu : Nat → Int32} (hU : US as a m0 us) (hP : US (fun i => bs (o i)) a m0 pu) :
    ∃ us2 pu2, run (sX2_part_24 (nI a) (nI m0) (nI (o a)) tk fi se ch) ((0 : Int32), us, pu) = some (tk, us2, pu2) ∧ US as a 0 us2 ∧ US (fun i => bs (o i)) a 0 pu2 := by
  have mono : ∀ (f : Nat → Nat) (s : Nat) {m : Nat}, m ≤ m0 → cA f a s m ≤ cA f a s m0 := fun f s m h => fb_ct_mono _ h
  have key := run_inv0 (step := sX2_part_24 (nI a) (nI m0) (nI (o a)) tk fi se ch) m0 (fun m q => q.1 = nI m ∧ (∀ s, s < 81 → q.2.1 s = nI (uA as a s + (cA as a s m0 - cA as a s m))) ∧ ∀ t, t < 81 → q.2.2 t = nI (uA (fun i => bs (o i)) a t + (cA (fun i => bs (o i)) a t m0 - cA (fun i => bs (o i)) a t m))) (fun t => ∃ us2 pu2, t = (tk, us2, pu2) ∧ US as a 0 us2 ∧ US (fun i => bs (o i)) a 0 pu2) (by
    rintro m ⟨v, us, pu⟩ hm ⟨rfl, hU, hP⟩
    have hU : ∀ s, s < 81 → us s = nI (uA as a s + (cA as a s m0 - cA as a s m)) := hU
    have hP : ∀ t, t < 81 → pu t = nI (uA (fun i => bs (o i)) a t + (cA (fun i => bs (o i)) a t m0 - cA (fun i => bs (o i)) a t m)) := hP
    have f1 := hfa a ha
    have f2 := hfa m (by omega)
    have o1 := ho a (by omega)
    have o2 := ho m (by omega)
    have b1 := hsb _ o1
    have b2 := hsb _ o2
    generalize es : as a + as m = s
    generalize et : bs (o a) + bs (o m) = t
    have hs81 : s < 81 := by omega
    have ht81 : t < 81 := by omega
    left
    show (∃ q2, bX2_part_24 (nI a) (nI m0) (nI (o a)) tk fi se ch (nI m) us pu = _ ∧ _)
    have head : bX2_part_24 (nI a) (nI m0) (nI (o a)) tk fi se ch (nI m) us pu = some (.inl (nI (m + 1), upd us s (us s - 1), upd pu t (pu t - 1))) := by
      unfold bX2_part_24
      simp only [lt_]
      rw [brF (nI_ge hm (by omega)), brF (nI_nlt (by omega) (by omega)), nI_clamp (show a < 2 ^ 31 by omega), nI_clamp (show m < 2 ^ 31 by omega), nI_clamp (show o a < 2 ^ 31 by omega), hch m (by omega), nI_clamp (show o m < 2 ^ 31 by omega), hf a ha, hf m (by omega), hs _ o1, hs _ o2, nI_add, nI_add, es, et, nI_clamp (show s < 2 ^ 31 by omega), nI_clamp (show t < 2 ^ 31 by omega), nI_1, gd_eq ⟨nI_pos (by omega), by omega⟩, gd_eq ⟨nI_pos (by omega), by omega⟩, gd_eq ⟨nI_pos (by omega), by omega⟩, gd_eq ⟨nI_pos (by omega), by omega⟩, gd_eq ⟨nI_pos (by omega), by omega⟩, gd_eq ⟨nI_pos (by omega), by omega⟩, gd_eq ⟨nI_pos (by omega), by omega⟩, gd_eq ⟨nI_pos (by omega), by omega⟩, gd_eq ⟨nI_pos (by omega), by omega⟩]
    rw [head]
    refine ⟨_, rfl, rfl, fun s' hs' => ?_, fun t' ht' => ?_⟩
    · show upd us s (us s - 1) s' = _
      have h1 := mono as s' (show m + 1 ≤ m0 by omega)
      have h2 := cA_succ as a s' m
      rw [es] at h2
      by_cases e : s' = s
      · subst e
        rw [if_pos rfl] at h2
        rw [pk_us, hU _ hs81, show (1 : Int32) = nI 1 from rfl, pk_sub (by omega)]
        congr 1
        omega
      · rw [if_neg (fun z => e z.symm)] at h2
        rw [pk_un e, hU s' hs', h2, Nat.add_zero]
    · show upd pu t (pu t - 1) t' = _
      have h1 := mono (fun i => bs (o i)) t' (show m + 1 ≤ m0 by omega)
      have h2 : cA (fun i => bs (o i)) a t' (m + 1) = cA (fun i => bs (o i)) a t' m + if bs (o a) + bs (o m) = t' then 1 else 0 := cA_succ _ a t' m
      rw [et] at h2
      by_cases e : t' = t
      · subst e
        rw [if_pos rfl] at h2
        rw [pk_us, hP _ ht81, show (1 : Int32) = nI 1 from rfl, pk_sub (by omega)]
        congr 1
        omega
      · rw [if_neg (fun z => e z.symm)] at h2
        rw [pk_un e, hP t' ht', h2, Nat.add_zero]) (by
    rintro ⟨v, us, pu⟩ ⟨rfl, hU, hP⟩
    show ∃ t, bX2_part_24 (nI a) (nI m0) (nI (o a)) tk fi se ch (nI m0) us pu = _ ∧ _
    unfold bX2_part_24
    rw [brT (Int32.le_refl _)]
    refine ⟨_, rfl, us, pu, rfl, fun s hs => ?_, fun t ht => ?_⟩
    · have := hU s hs
      rw [Nat.sub_self] at this
      exact this
    · have := hP t ht
      rw [Nat.sub_self] at this
      exact this) (q := ((0 : Int32), us, pu)) ⟨rfl, fun s hs => hU s hs, fun t ht => hP t ht⟩
  obtain ⟨t, r, us2, pu2, rfl, rest⟩ := key
  exact ⟨us2, pu2, r, rest⟩
