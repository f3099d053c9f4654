/-! how many bits: the JDK's way of counting -/
def pc : Nat → Nat → Nat
  | 0, _ => 0
  | n + 1, x => x % 2 + pc n (x / 2)
theorem pc_add (a : Nat) : ∀ (n b : Nat), pc (a + b) n = pc a n + pc b (n / 2 ^ a) := by
  induction a with
  | zero => intro n b; rw [Nat.zero_add, Nat.pow_zero, Nat.div_one]; exact (Nat.zero_add _).symm
  | succ a ih =>
    intro n b
    rw [show a + 1 + b = (a + b) + 1 by omega]
    show n % 2 + pc (a + b) (n / 2) = n % 2 + pc a (n / 2) + pc b (n / 2 ^ (a + 1))
    rw [ih, Nat.div_div_eq_div_mul, Nat.pow_succ, Nat.mul_comm (2 ^ a) 2]
    omega
theorem pc_mod (a : Nat) : ∀ n, pc a (n % 2 ^ a) = pc a n := by
  induction a with
  | zero => intro n; rfl
  | succ a ih =>
    intro n
    show n % 2 ^ (a + 1) % 2 + pc a (n % 2 ^ (a + 1) / 2) = n % 2 + pc a (n / 2)
    have e1 : n % 2 ^ (a + 1) % 2 = n % 2 := Nat.mod_mod_of_dvd n ⟨2 ^ a, by rw [Nat.pow_succ, Nat.mul_comm]⟩
    have e2 : n % 2 ^ (a + 1) / 2 = n / 2 % 2 ^ a := by
      rw [Nat.pow_succ, Nat.mul_comm, Nat.mod_mul_right_div_self]
    rw [e1, e2, ih]
theorem pc_le (a : Nat) : ∀ n, pc a n ≤ a := by
  induction a with
  | zero => intro n; exact Nat.le_refl 0
  | succ a ih =>
    intro n
    have h := ih (n / 2)
    show n % 2 + pc a (n / 2) ≤ a + 1
    omega
theorem pc_ct (a : Nat) : ∀ n, pc a n = fb_ct (fun i => n.testBit i) a := by
  induction a with
  | zero => intro n; rfl
  | succ a ih =>
    intro n
    rw [show a + 1 = 1 + a by omega, fb_ct_split, show 1 + a = a + 1 by omega]
    show n % 2 + pc a (n / 2) = (0 + if n.testBit 0 then 1 else 0) + _
    rw [ih (n / 2), Nat.zero_add]
    congr 1
    · rw [Nat.testBit_zero]
      by_cases h : n % 2 = 1
      · rw [h]; simp
      · rw [if_neg (by simpa using h)]; omega
    · refine fb_ct_cong (fun k _ => ?_)
      rw [Nat.add_comm 1 k, Nat.testBit_succ]
theorem and_by (x m y z : Nat) (hy : y < 256) (hz : z < 256) : (256 * x + y) &&& (256 * m + z) = 256 * (x &&& m) + (y &&& z) := by
  have h1 := Nat.and_div_two_pow (a := 256 * x + y) (b := 256 * m + z) (n := 8)
  have h2 := Nat.and_mod_two_pow (a := 256 * x + y) (b := 256 * m + z) (n := 8)
  rw [show (2 : Nat) ^ 8 = 256 from rfl] at h1 h2
  rw [show (256 * x + y) / 256 = x by omega, show (256 * m + z) / 256 = m by omega] at h1
  rw [show (256 * x + y) % 256 = y by omega, show (256 * m + z) % 256 = z by omega] at h2
  have h3 := Nat.div_add_mod ((256 * x + y) &&& (256 * m + z)) 256
  rw [h1, h2] at h3
  exact h3.symm
def m5 : Nat → Nat
  | 0 => 0
  | k + 1 => 256 * m5 k + 85
def m3 : Nat → Nat
  | 0 => 0
  | k + 1 => 256 * m3 k + 51
def mf : Nat → Nat
  | 0 => 0
  | k + 1 => 256 * mf k + 15
def sA (k n : Nat) : Nat := n - ((n / 2) &&& m5 k)
def sB (k n : Nat) : Nat := (n &&& m3 k) + ((n / 4) &&& m3 k)
def sC (k n : Nat) : Nat := (n + n / 16) &&& mf k
def dg : Nat → Nat → Nat
  | 0, _ => 0
  | k + 1, n => 256 * dg k (n / 256) + pc 8 (n % 256)
theorem fin1 : ∀ c, c < 2 → ∀ b, b < 256 → (128 * c + b / 2) &&& 85 = (b / 2) &&& 85 := by decide +kernel
theorem fin2 : ∀ c, c < 4 → ∀ b, b < 256 → (64 * c + b / 4) &&& 51 = (b / 4) &&& 51 := by decide +kernel
theorem fin3 : ∀ c, c < 5 → ∀ b, b < 256 → b % 16 ≤ 4 → b / 16 ≤ 4 → (b + 16 * c + b / 16) &&& 15 = (b + b / 16) &&& 15 := by decide +kernel
def b1 (b : Nat) : Nat := b - ((b / 2) &&& 85)
def b2 (b : Nat) : Nat := (b &&& 51) + ((b / 4) &&& 51)
def b3 (b : Nat) : Nat := (b + b / 16) &&& 15
theorem fin4 : ∀ b, b < 256 → b1 b < 256 ∧ b2 (b1 b) < 256 ∧ b2 (b1 b) % 16 ≤ 4 ∧ b2 (b1 b) / 16 ≤ 4 ∧ b3 (b2 (b1 b)) = pc 8 b := by decide +kernel
theorem sA_step (k a b : Nat) (hb : b < 256) : sA (k + 1) (256 * a + b) = 256 * sA k a + b1 b := by
  unfold sA b1
  rw [show (256 * a + b) / 2 = 256 * (a / 2) + (128 * (a % 2) + b / 2) by omega]
  show _ - (_ &&& (256 * m5 k + 85)) = _
  rw [and_by _ _ _ _ (by omega) (by omega), fin1 (a % 2) (by omega) b hb]
  have h1 : (a / 2) &&& m5 k ≤ a / 2 := Nat.and_le_left
  have h2 : (b / 2) &&& 85 ≤ b / 2 := Nat.and_le_left
  generalize (a / 2) &&& m5 k = u at h1 ⊢
  generalize (b / 2) &&& 85 = v at h2 ⊢
  omega
theorem sB_step (k a b : Nat) (hb : b < 256) : sB (k + 1) (256 * a + b) = 256 * sB k a + b2 b := by
  unfold sB b2
  rw [show (256 * a + b) / 4 = 256 * (a / 4) + (64 * (a % 4) + b / 4) by omega]
  show (_ &&& (256 * m3 k + 51)) + (_ &&& (256 * m3 k + 51)) = _
  rw [and_by _ _ _ _ (by omega) (by omega), and_by _ _ _ _ (by omega) (by omega), fin2 (a % 4) (by omega) b hb]
  generalize a &&& m3 k = u
  generalize (a / 4) &&& m3 k = u2
  generalize b &&& 51 = v
  generalize (b / 4) &&& 51 = v2
  omega
theorem sC_step (k a b : Nat) (hb : b < 256) (ha : a % 16 ≤ 4) (h1 : b % 16 ≤ 4) (h2 : b / 16 ≤ 4) : sC (k + 1) (256 * a + b) = 256 * sC k a + b3 b := by
  unfold sC b3
  rw [show 256 * a + b + (256 * a + b) / 16 = 256 * (a + a / 16) + (b + 16 * (a % 16) + b / 16) by omega]
  show (_ &&& (256 * mf k + 15)) = _
  rw [and_by _ _ _ _ (by omega) (by omega), fin3 (a % 16) (by omega) b hb h1 h2]
theorem sB_low : ∀ (k n : Nat), n < 256 ^ k → sB k (sA k n) % 16 ≤ 4 := by
  intro k
  cases k with
  | zero => intro n h; rw [show n = 0 by simpa using h]; decide
  | succ k =>
    intro n h
    have hb : n % 256 < 256 := Nat.mod_lt _ (by omega)
    have e := Nat.div_add_mod n 256
    rw [← e, sA_step k _ _ hb, sB_step k _ _ (fin4 _ hb).1]
    have h3 := (fin4 _ hb).2.2.1
    omega
theorem swar : ∀ (k n : Nat), n < 256 ^ k → sC k (sB k (sA k n)) = dg k n := by
  intro k
  induction k with
  | zero => intro n h; rw [show n = 0 by simpa using h]; decide
  | succ k ih =>
    intro n h
    have hb : n % 256 < 256 := Nat.mod_lt _ (by omega)
    have hn : n / 256 < 256 ^ k := by
      rw [Nat.pow_succ] at h
      exact Nat.div_lt_of_lt_mul (by rw [Nat.mul_comm]; exact h)
    have e := Nat.div_add_mod n 256
    obtain ⟨f1, f2, f3, f4, f5⟩ := fin4 _ hb
    conv => lhs; rw [← e]
    rw [sA_step k _ _ hb, sB_step k _ _ f1, sC_step k _ _ f2 (sB_low k _ hn) f3 f4, ih _ hn, f5]
    rfl
