/-! Long.bitCount counts the bits -/
def bcP (r : Nat) : Nat := fb_ct (fun i => r.testBit i) 8
def bcM (c : Nat) : Nat → Nat
  | 0 => 0
  | j + 1 => 256 * bcM c j + c
theorem bc_and (q r c d : Nat) (hr : r < 256) (hd : d < 256) : (256 * q + r) &&& (256 * c + d) = 256 * (q &&& c) + (r &&& d) := by
  have hrd : r &&& d < 2 ^ 8 := Nat.and_lt_two_pow _ hd
  apply Nat.eq_of_testBit_eq
  intro i
  rw [Nat.testBit_and, show 256 * q + r = 2 ^ 8 * q + r from rfl, show 256 * c + d = 2 ^ 8 * c + d from rfl, show 256 * (q &&& c) + (r &&& d) = 2 ^ 8 * (q &&& c) + (r &&& d) from rfl, Nat.testBit_two_pow_mul_add _ hr, Nat.testBit_two_pow_mul_add _ hd, Nat.testBit_two_pow_mul_add _ hrd]
  by_cases h : i < 8
  · simp only [if_pos h, Nat.testBit_and]
  · simp only [if_neg h, Nat.testBit_and]
def bcs1 (r : Nat) : Nat := r - ((r / 2) &&& 0x55)
def bcs2 (r : Nat) : Nat := (r &&& 0x33) + ((r / 4) &&& 0x33)
def bcS1 (j m : Nat) : Nat := m - ((m / 2) &&& bcM 0x55 j)
def bcS2 (j m : Nat) : Nat := (m &&& bcM 0x33 j) + ((m / 4) &&& bcM 0x33 j)
def bcS3 (j m : Nat) : Nat := (m + m / 16) &&& bcM 0x0f j
theorem bc_b1 : ∀ b, b < 2 → ∀ r, r < 256 → ((128 * b + r / 2) &&& 0x55) = ((r / 2) &&& 0x55) := by decide +kernel
theorem bc_b2 : ∀ b, b < 4 → ∀ r, r < 256 → ((64 * b + r / 4) &&& 0x33) = ((r / 4) &&& 0x33) := by decide +kernel
theorem bc_b3 : ∀ b, b < 5 → ∀ r, r < 69 → ((16 * b + (r + r / 16)) &&& 0x0f) = ((r + r / 16) &&& 0x0f) := by decide +kernel
theorem bc_all : ∀ r, r < 256 → bcs1 r < 256 ∧ bcs2 (bcs1 r) < 69 ∧ bcs2 (bcs1 r) % 16 < 5 ∧ ((bcs2 (bcs1 r) + bcs2 (bcs1 r) / 16) &&& 0x0f) = bcP r ∧ bcP r ≤ 8 ∧ ((r / 2) &&& 0x55) ≤ r := by decide +kernel
theorem bc_s1 (j q r : Nat) (hr : r < 256) : bcS1 (j + 1) (256 * q + r) = 256 * bcS1 j q + bcs1 r := by
  have e : ((256 * q + r) / 2) &&& bcM 0x55 (j + 1) = 256 * ((q / 2) &&& bcM 0x55 j) + ((r / 2) &&& 0x55) := by
    rw [show bcM 0x55 (j + 1) = 256 * bcM 0x55 j + 0x55 from rfl, show (256 * q + r) / 2 = 256 * (q / 2) + (128 * (q % 2) + r / 2) by omega, bc_and _ _ _ _ (by omega) (by omega), bc_b1 _ (by omega) _ hr]
  unfold bcS1 bcs1
  rw [e]
  have h1 : (q / 2) &&& bcM 0x55 j ≤ q / 2 := Nat.and_le_left
  have h2 := (bc_all r hr).2.2.2.2.2
  omega
theorem bc_s2 (j q r : Nat) (hr : r < 256) : bcS2 (j + 1) (256 * q + r) = 256 * bcS2 j q + bcs2 r := by
  unfold bcS2 bcs2
  rw [show bcM 0x33 (j + 1) = 256 * bcM 0x33 j + 0x33 from rfl, show (256 * q + r) / 4 = 256 * (q / 4) + (64 * (q % 4) + r / 4) by omega, bc_and _ _ _ _ hr (by omega), bc_and _ _ _ _ (by omega) (by omega), bc_b2 _ (by omega) _ hr]
  omega
theorem bc_s3 (j q r : Nat) (hr : r < 69) (hq : q % 16 < 5) : bcS3 (j + 1) (256 * q + r) = 256 * bcS3 j q + ((r + r / 16) &&& 0x0f) := by
  unfold bcS3
  rw [show bcM 0x0f (j + 1) = 256 * bcM 0x0f j + 0x0f from rfl, show 256 * q + r + (256 * q + r) / 16 = 256 * (q + q / 16) + (16 * (q % 16) + (r + r / 16)) by omega, bc_and _ _ _ _ (by omega) (by omega), bc_b3 _ hq _ hr]
def bcG : Nat → Nat → Nat
  | 0, _ => 0
  | j + 1, m => 256 * bcG j (m / 256) + bcP (m % 256)
theorem bc_nib : ∀ j m, bcS2 j (bcS1 j m) % 16 < 5 := by
  intro j m
  cases j with
  | zero => unfold bcS2; simp [bcM]
  | succ j =>
    have hr : m % 256 < 256 := Nat.mod_lt _ (by omega)
    have ha := bc_all _ hr
    have e1 := bc_s1 j (m / 256) (m % 256) hr
    rw [show 256 * (m / 256) + m % 256 = m from by omega] at e1
    rw [e1, bc_s2 j _ _ ha.1]
    omega
theorem bc_G : ∀ j m, m < 256 ^ j → bcS3 j (bcS2 j (bcS1 j m)) = bcG j m := by
  intro j
  induction j with
  | zero =>
    intro m hm
    unfold bcS3
    simp [bcM, bcG]
  | succ j ih =>
    intro m hm
    have hr : m % 256 < 256 := Nat.mod_lt _ (by omega)
    have ha := bc_all _ hr
    have e1 := bc_s1 j (m / 256) (m % 256) hr
    rw [show 256 * (m / 256) + m % 256 = m from by omega] at e1
    rw [e1, bc_s2 j _ _ ha.1, bc_s3 j _ _ ha.2.1 (bc_nib j _), ih (m / 256) (by rw [Nat.pow_succ] at hm; omega), ha.2.2.2.1]
    rfl
/-- the bits of a number, eight by eight -/
theorem bc_ct : ∀ j m, fb_ct (fun i => m.testBit i) (8 * (j + 1)) = bcP (m % 256) + fb_ct (fun i => (m / 256).testBit i) (8 * j) := by
  intro j m
  rw [show 8 * (j + 1) = 8 + 8 * j by omega, fb_ct_split]
  congr 1
  · apply fb_ct_cong
    intro i hi
    rw [show 256 = 2 ^ 8 from rfl, Nat.testBit_mod_two_pow]
    simp [hi]
  · apply fb_ct_cong
    intro i _
    rw [show 256 = 2 ^ 8 from rfl, Nat.testBit_div_two_pow]
    congr 1
    omega
