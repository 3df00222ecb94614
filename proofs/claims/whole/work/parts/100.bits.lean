/-! longs as sets of bits -/
def zb (x : Int64) (i : Nat) : Bool := x.toBitVec.getLsbD i
theorem zb_ext {x y : Int64} (h : ∀ i, i < 64 → zb x i = zb y i) : x = y := Int64.toBitVec_inj.mp (BitVec.eq_of_getLsbD_eq (fun i hi => h i hi))
theorem zb_or (x y : Int64) (i : Nat) : zb (x ||| y) i = (zb x i || zb y i) := by unfold zb; rw [Int64.toBitVec_or, BitVec.getLsbD_or]
theorem zb_and (x y : Int64) (i : Nat) : zb (x &&& y) i = (zb x i && zb y i) := by unfold zb; rw [Int64.toBitVec_and, BitVec.getLsbD_and]
theorem zb_xor (x y : Int64) (i : Nat) : zb (x ^^^ y) i = (zb x i ^^ zb y i) := by unfold zb; rw [Int64.toBitVec_xor, BitVec.getLsbD_xor]
theorem zb_big {x : Int64} {i : Nat} (h : 64 ≤ i) : zb x i = false := BitVec.getLsbD_of_ge _ _ h
theorem zb_m1 (i : Nat) : zb (-1) i = decide (i < 64) := by
  rcases Nat.lt_or_ge i 64 with h | h
  · exact (by decide +kernel : ∀ i, i < 64 → zb (-1) i = decide (i < 64)) i h
  · rw [zb_big h, decide_eq_false (by omega)]
theorem zb_0 (i : Nat) : zb 0 i = false := BitVec.getLsbD_zero
theorem zb_1 (i : Nat) : zb 1 i = decide (i = 0) := by
  rcases Nat.lt_or_ge i 64 with h | h
  · exact (by decide +kernel : ∀ i, i < 64 → zb 1 i = decide (i = 0)) i h
  · rw [zb_big h, decide_eq_false (by omega)]
theorem zb_sl : ∀ n, n < 64 → (((nI n).toInt64 &&& 63).toBitVec.smod 64).toNat = n := by decide +kernel
theorem zb_su : ∀ n, n < 64 → (((nI n).toInt64.toUInt64 &&& Int64.toUInt64 63).toBitVec % 64).toNat = n := by decide +kernel
theorem zb_lsl (x : Int64) {k : Nat} (hk : k < 64) (i : Nat) : zb (sh_lsl x (nI k)) i = (decide (i < 64) && (decide (k ≤ i) && zb x (i - k))) := by
  unfold zb sh_lsl
  rw [Int64.toBitVec_shiftLeft]
  show (x.toBitVec <<< (((nI k).toInt64 &&& 63).toBitVec.smod 64).toNat).getLsbD i = _
  rw [zb_sl k hk, BitVec.getLsbD_shiftLeft]
  rcases Nat.lt_or_ge i k with h | h
  · simp [h, Nat.not_le.mpr h]
  · simp [h, Nat.not_lt.mpr h]
theorem zb_lsr (x : Int64) {k : Nat} (hk : k < 64) (i : Nat) : zb (sh_lsr x (nI k)) i = zb x (k + i) := by
  show (x.toUInt64 >>> ((nI k).toInt64.toUInt64 &&& Int64.toUInt64 63)).toBitVec.getLsbD i = x.toUInt64.toBitVec.getLsbD (k + i)
  rw [UInt64.toBitVec_shiftRight]
  show (x.toUInt64.toBitVec >>> (((nI k).toInt64.toUInt64 &&& Int64.toUInt64 63).toBitVec % 64).toNat).getLsbD i = _
  rw [zb_su k hk, BitVec.getLsbD_ushiftRight]
theorem zb_bit {k : Nat} (hk : k < 64) (i : Nat) : zb (sh_lsl 1 (nI k)) i = decide (i = k) := by
  rw [zb_lsl _ hk, zb_1]
  by_cases h : i = k
  · subst h; simp [hk]
  · rcases Nat.lt_or_ge i k with h1 | h1
    · simp [h, Nat.not_le.mpr h1]
    · have : ¬ i - k = 0 := by omega
      simp [h, this]
theorem zb_low (y : Int64) : (y &&& 1 = 1) ↔ zb y 0 = true := by
  constructor
  · intro h
    have h1 : zb (y &&& 1) 0 = zb 1 0 := by rw [h]
    rw [zb_and, zb_1] at h1
    simpa using h1
  · intro h
    apply zb_ext
    intro i hi
    rw [zb_and, zb_1]
    by_cases h0 : i = 0
    · subst h0; simp [h]
    · simp [h0]
theorem zb_low0 (y : Int64) : (y &&& 1 = 0) ↔ zb y 0 = false := by
  constructor
  · intro h
    have h1 : zb (y &&& 1) 0 = zb 0 0 := by rw [h]
    rw [zb_and, zb_1, zb_0] at h1
    simpa using h1
  · intro h
    apply zb_ext
    intro i hi
    rw [zb_and, zb_1, zb_0]
    by_cases h0 : i = 0
    · subst h0; simp [h]
    · simp [h0]
def z01 (b : Bool) : Int32 := if b then 1 else 0
theorem z01_f : z01 false = 0 := rfl
theorem z01_t : ¬ z01 true = 0 := by decide
theorem z01_0 (b : Bool) : z01 b = 0 ↔ b = false := by cases b <;> simp [z01]
theorem p_has (x : Int64) {k : Nat} (hk : k < 64) : fX8_has x (nI k) = some (z01 (zb x k)) := by
  unfold fX8_has
  by_cases h : zb x k = true
  · rw [if_pos ((zb_low _).mpr (by rw [zb_lsr _ hk]; simpa using h)), h]; rfl
  · rw [if_neg (fun q => h (by have := (zb_low _).mp q; rw [zb_lsr _ hk] at this; simpa using this)), Bool.eq_false_iff.mpr h]; rfl
/-- how many of the first n bits are set -/
abbrev zn (x : Int64) (n : Nat) : Nat := fb_ct (zb x) n
theorem p_many_L (x : Int64) : ∀ (r n k : Nat), k + r = 36 → r < n → fX8_many_L4 n x (nI (zn x k)) (nI k) = some (nI (zn x 36)) := by
  intro r
  induction r with
  | zero =>
    intro n k hk hn
    obtain ⟨n, rfl⟩ : ∃ m, n = m + 1 := ⟨n - 1, by omega⟩
    obtain rfl : k = 36 := by omega
    rw [fX8_many_L4_s, if_pos (show (36 : Int32) ≤ nI 36 from nI_le (a := 36) (b := 36) (by omega) (by omega))]
  | succ r ih =>
    intro n k hk hn
    obtain ⟨n, rfl⟩ : ∃ m, n = m + 1 := ⟨n - 1, by omega⟩
    rw [fX8_many_L4_s, if_neg (show ¬ (36 : Int32) ≤ nI k from nI_ge (a := k) (b := 36) (by omega) (by omega)), sh_b1_s (p_has x (by omega))]
    have hs := ih n (k + 1) (by omega) (by omega)
    rw [show zn x (k + 1) = zn x k + (if zb x k then 1 else 0) from rfl] at hs
    by_cases h : zb x k = true
    · rw [h, if_neg z01_t]
      rw [h] at hs
      rw [nI_1, nI_1]
      exact hs
    · have h := Bool.eq_false_iff.mpr h
      rw [h, if_pos z01_f]
      rw [h] at hs
      rw [nI_1, show nI (zn x k) + 0 = nI (zn x k) from by simp]
      exact hs
theorem p_many (x : Int64) : fX8_many x = some (nI (zn x 36)) := by
  unfold fX8_many
  have h := p_many_L x 36 sh_fu 0 (by omega) (by decide)
  rw [show zn x 0 = 0 from rfl, nI_0] at h
  rw [sh_b1_s h]
theorem p_in (x a b : Int64) : fX8_in x a b = some (z01 (decide (a ≤ x ∧ x ≤ b))) := by
  unfold fX8_in
  by_cases h1 : x < a
  · rw [if_pos h1, decide_eq_false (fun q => absurd h1 (Int64.not_lt.mpr q.1))]; rfl
  · rw [if_neg h1]
    by_cases h2 : b < x
    · rw [if_pos h2, decide_eq_false (fun q => absurd h2 (Int64.not_lt.mpr q.2))]; rfl
    · rw [if_neg h2, decide_eq_true ⟨Int64.not_lt.mp h1, Int64.not_lt.mp h2⟩]; rfl
