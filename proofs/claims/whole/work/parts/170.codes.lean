/-! codes of doings -/
theorem lN_toI {n : Nat} (h : n < 2 ^ 63) : (lN n).toInt = (n : Int) := lg_ofNat_toInt h
theorem lN_injI {a b : Nat} (ha : a < 2 ^ 63) (hb : b < 2 ^ 63) : lN a = lN b ↔ a = b := by
  rw [← Int64.toInt_inj, lN_toI ha, lN_toI hb]; omega
theorem p_divL {a d : Nat} (ha : a < 2 ^ 63) (hd : d < 2 ^ 63) : lN a / lN d = lN (a / d) := by
  have hq : a / d < 2 ^ 63 := Nat.lt_of_le_of_lt (Nat.div_le_self a d) ha
  apply Int64.toInt_inj.mp
  rw [Int64.toInt_div, lN_toI ha, lN_toI hd, lN_toI hq, Int.tdiv_eq_ediv_of_nonneg (Int.natCast_nonneg a), ← Int.natCast_ediv]
  generalize a / d = q at hq ⊢
  exact fb_bmodL (by omega) (by omega)
theorem p_remL {a d : Nat} (ha : a < 2 ^ 63) (hd : d < 2 ^ 63) : lN a - lN a / lN d * lN d = lN (a % d) := by
  rw [p_divL ha hd, lN_mul, lN_sub (Nat.div_mul_le_self a d)]
  congr 1
  have h1 := Nat.div_add_mod a d
  rw [Nat.mul_comm] at h1
  omega
theorem z_pow4 : ∀ i, i ≤ 4 → 0 < 10000 ^ i ∧ 10000 ^ i < 2 ^ 63 := by
  intro i hi
  have h1 : 10000 ^ i ≤ 10000 ^ 4 := Nat.pow_le_pow_right (by decide) hi
  exact ⟨Nat.pos_of_ne_zero (fun z => by have := Nat.pow_eq_zero.mp z; omega), Nat.lt_of_le_of_lt h1 (by decide)⟩
theorem p_without_L {a x : Nat} (ha : a < 2 ^ 63) (hx : x ≤ 4) : ∀ (r n i : Nat), i + r = x → r < n → fX7_withoutLast_L5 n (nI x) (lN (a / 10000 ^ i)) (nI i) = some (lN (a / 10000 ^ x)) := by
  intro r
  induction r with
  | zero =>
    intro n i hi hn
    obtain ⟨n, rfl⟩ : ∃ m, n = m + 1 := ⟨n - 1, by omega⟩
    obtain rfl : i = x := by omega
    rw [fX7_withoutLast_L5_s, if_pos (nI_le (Nat.le_refl _) (by omega))]
  | succ r ih =>
    intro n i hi hn
    obtain ⟨n, rfl⟩ : ∃ m, n = m + 1 := ⟨n - 1, by omega⟩
    have hq : a / 10000 ^ i < 2 ^ 63 := Nat.lt_of_le_of_lt (Nat.div_le_self _ _) ha
    rw [fX7_withoutLast_L5_s, if_neg (nI_ge (by omega) (by omega)), if_neg (show ¬ (4 : Int32) ≤ nI i from nI_ge (b := 4) (by omega) (by omega)), show lN (a / 10000 ^ i) / 10000 = lN (a / 10000 ^ i / 10000) from p_divL (d := 10000) hq (by omega), nI_1, Nat.div_div_eq_div_mul, ← Nat.pow_succ]
    exact ih n (i + 1) (by omega) (by omega)
theorem p_without {a x : Nat} (ha : a < 2 ^ 63) (hx : x ≤ 4) : fX7_withoutLast (lN a) (nI x) = some (lN (a / 10000 ^ x)) := by
  unfold fX7_withoutLast
  have e := p_without_L ha hx x sh_fu 0 (by omega) (by unfold sh_fu; omega)
  rw [nI_0, Nat.pow_zero, Nat.div_one] at e
  rw [sh_b1_s e]
theorem p_longPower_L {x : Nat} (hx : x ≤ 4) : ∀ (r n i : Nat), i + r = x → r < n → fX8_longPower_L5 n 10000 (nI x) (lN (10000 ^ i)) (nI i) = some (lN (10000 ^ x)) := by
  intro r
  induction r with
  | zero =>
    intro n i hi hn
    obtain ⟨n, rfl⟩ : ∃ m, n = m + 1 := ⟨n - 1, by omega⟩
    obtain rfl : i = x := by omega
    rw [fX8_longPower_L5_s, if_pos (nI_le (Nat.le_refl _) (by omega))]
  | succ r ih =>
    intro n i hi hn
    obtain ⟨n, rfl⟩ : ∃ m, n = m + 1 := ⟨n - 1, by omega⟩
    rw [fX8_longPower_L5_s, if_neg (nI_ge (by omega) (by omega)), show lN (10000 ^ i) * 10000 = lN (10000 ^ i * 10000) from lN_mul _ 10000, nI_1, ← Nat.pow_succ]
    exact ih n (i + 1) (by omega) (by omega)
theorem p_longPower {x : Nat} (hx : x ≤ 4) : fX8_longPower 10000 (nI x) = some (lN (10000 ^ x)) := by
  unfold fX8_longPower
  have e := p_longPower_L hx x sh_fu 0 (by omega) (by unfold sh_fu; omega)
  rw [nI_0, Nat.pow_zero] at e
  rw [show (1 : Int64) = lN 1 from rfl, sh_b1_s e]
theorem sh_divL_n {a x : Nat} (ha : a < 2 ^ 63) (hx : x ≤ 4) : sh_divL (lN a) (lN (10000 ^ x)) = some (lN (a / 10000 ^ x)) := by
  obtain ⟨h1, h2⟩ := z_pow4 x hx
  unfold sh_divL
  rw [if_neg (fun z => by have := (lN_injI (b := 0) h2 (by omega)).mp z; omega), p_divL ha h2]
/-- a code's figures -/
theorem p_code {v : Nat} (hv : v < 10000) : nI v / 1000 = nI (v / 1000) ∧ (nI v / 10) - (nI v / 10) / 100 * 100 = nI (v / 10 % 100) ∧ nI v - nI v / 10 * 10 = nI (v % 10) := by
  refine ⟨pk_div (d := 1000) (by omega) (by omega) (by omega), ?_, pk_rem (d := 10) (by omega) (by omega) (by omega)⟩
  rw [show nI v / 10 = nI (v / 10) from pk_div (d := 10) (by omega) (by omega) (by omega)]
  exact pk_rem (d := 100) (by omega) (by omega) (by omega)
