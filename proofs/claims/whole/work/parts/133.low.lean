/-- of a set of dots: how many there are -/
theorem p_bcs (S : Nat → Bool) : fJ13_bitCount_95d88 (zs S) = some (nI (fb_ct S 36)) := by
  rw [p_bc, show (64 : Nat) = 36 + 28 from rfl, fb_ct_split]
  rw [show fb_ct (zb (zs S)) 36 = fb_ct S 36 from fb_ct_cong (fun k hk => by rw [zb_zs]; simp [hk])]
  rw [show fb_ct (fun k => zb (zs S) (36 + k)) 28 = 0 from fb_ct_zero.mpr (fun k _ => by rw [zb_zs, decide_eq_false (show ¬ 36 + k < 36 by omega)]; rfl)]
  rfl
/-! the lowest bit -/
theorem lo_and {e u : Nat} (he : e < 64) (hu : u < 2 ^ (63 - e)) : (2 ^ (e + 1) * u + 2 ^ e) &&& (2 ^ 64 - (2 ^ (e + 1) * u + 2 ^ e)) = 2 ^ e := by
  have hp : 2 ^ 64 = 2 ^ (e + 1) * 2 ^ (63 - e) := by rw [← Nat.pow_add]; congr 1; omega
  have hl : 2 ^ e < 2 ^ (e + 1) := Nat.pow_lt_pow_right (by omega) (by omega)
  have hs : 2 ^ (e + 1) = 2 ^ e + 2 ^ e := by rw [Nat.pow_succ]; omega
  obtain ⟨v, hv⟩ : ∃ v, 2 ^ (63 - e) = u + 1 + v := ⟨2 ^ (63 - e) - (u + 1), by omega⟩
  have h2 : 2 ^ 64 - (2 ^ (e + 1) * u + 2 ^ e) = 2 ^ (e + 1) * v + 2 ^ e := by
    rw [hp, hv, Nat.mul_add, Nat.mul_add]
    generalize 2 ^ (e + 1) * u = A
    generalize 2 ^ (e + 1) * v = B
    omega
  rw [h2]
  have hv2 : v = 2 ^ (63 - e) - (u + 1) := by omega
  apply Nat.eq_of_testBit_eq
  intro i
  rw [Nat.testBit_and, Nat.testBit_two_pow_mul_add _ hl, Nat.testBit_two_pow_mul_add _ hl]
  by_cases hi : i < e + 1
  · simp only [if_pos hi]; cases (2 ^ e).testBit i <;> rfl
  · simp only [if_neg hi]
    rw [hv2, Nat.testBit_two_pow_sub_succ hu, Nat.testBit_two_pow]
    rw [decide_eq_false (show ¬ e = i by omega)]
    cases u.testBit (i - (e + 1)) <;> simp
theorem lo_form {m e : Nat} (h1 : m.testBit e = true) (h2 : ∀ j, j < e → m.testBit j = false) : m = 2 ^ (e + 1) * (m / 2 ^ (e + 1)) + 2 ^ e := by
  have h3 : m % 2 ^ (e + 1) = 2 ^ e := by
    apply Nat.eq_of_testBit_eq
    intro i
    rw [Nat.testBit_mod_two_pow, Nat.testBit_two_pow]
    by_cases hi : i < e
    · rw [h2 i hi, decide_eq_false (show ¬ e = i by omega)]; simp
    · by_cases he : i = e
      · subst he; rw [h1]; simp
      · rw [decide_eq_false (show ¬ i < e + 1 by omega), decide_eq_false (show ¬ e = i by omega)]; rfl
  have := Nat.div_add_mod m (2 ^ (e + 1))
  rw [h3] at this
  exact this.symm
theorem lN_neg {m : Nat} (hm : m ≤ 2 ^ 64) : -(lN m) = lN (2 ^ 64 - m) := by
  apply wb_inj
  rw [Int64.toBitVec_neg, wb_tb, wb_tb]
  apply BitVec.eq_of_toNat_eq
  rw [BitVec.toNat_neg, BitVec.toNat_ofNat, BitVec.toNat_ofNat]
  rcases Nat.eq_or_lt_of_le hm with h | h
  · subst h; simp
  · rw [Nat.mod_eq_of_lt h]
theorem p_low {x : Int64} {e : Nat} (he : e < 64) (h1 : zb x e = true) (h2 : ∀ j, j < e → zb x j = false) : x &&& (-x) = lN (2 ^ e) := by
  obtain ⟨m, hm, rfl⟩ := wb_of x
  rw [zb_lN e he] at h1
  have h2 : ∀ j, j < e → m.testBit j = false := fun j hj => by rw [← zb_lN j (by omega)]; exact h2 j hj
  have hf := lo_form h1 h2
  have hu : m / 2 ^ (e + 1) < 2 ^ (63 - e) := by
    apply Nat.div_lt_of_lt_mul
    rw [← Nat.pow_add, show e + 1 + (63 - e) = 64 by omega]
    exact hm
  rw [lN_neg (by omega), wb_and hm (by have : 0 < m := by (rcases Nat.eq_zero_or_pos m with h | h); (· subst h; simp at h1); (· exact h)
                                       omega)]
  congr 1
  have := lo_and he hu
  rw [← hf] at this
  exact this
theorem lN_bit {e : Nat} (he : e < 36) : lN (2 ^ e) = zs (fun i => decide (i = e)) := zs_ext (fun i => by
  by_cases hi : i < 64
  · rw [zb_lN i hi, Nat.testBit_two_pow]
    by_cases h : i = e
    · subst h; simp [he]
    · simp [h, show ¬ e = i from fun q => h q.symm]
  · rw [zb_big (by omega), decide_eq_false (show ¬ i < 36 by omega)]; rfl)
/-- the lowest dot of a set -/
theorem p_lows {S : Nat → Bool} {e : Nat} (he : e < 36) (h1 : S e = true) (h2 : ∀ j, j < e → S j = false) : zs S &&& (-(zs S)) = zs (fun i => decide (i = e)) := by
  rw [p_low (e := e) (by omega) (by rw [zb_zs, h1]; simp [he]) (fun j hj => by rw [zb_zs, h2 j hj]; simp), lN_bit he]
theorem p_lowc {S : Nat → Bool} {e : Nat} (he : e < 36) (h1 : S e = true) (h2 : ∀ j, j < e → S j = false) : fJ13_bitCount_95d88 ((zs S &&& (-(zs S))) - 1) = some (nI e) := by
  rw [p_low (e := e) (by omega) (by rw [zb_zs, h1]; simp [he]) (fun j hj => by rw [zb_zs, h2 j hj]; simp)]
  have hp : 1 ≤ 2 ^ e := Nat.one_le_two_pow
  rw [show (1 : Int64) = lN 1 from rfl, lN_sub hp, p_bc]
  congr 2
  rw [show fb_ct (zb (lN (2 ^ e - 1))) 64 = fb_ct (fun i => decide (i < e)) 64 from fb_ct_cong (fun i hi => by rw [zb_lN i hi, Nat.testBit_two_pow_sub_one])]
  rw [show (64 : Nat) = e + (64 - e) by omega, fb_ct_split, fb_ct_all.mpr (fun k hk => by simp [hk]), fb_ct_zero.mpr (fun k _ => by simp)]
  rfl
