/-! shares, the answer -/
theorem row_sp {p : Nat → Int32} {gw gd gh : Int32} {ga gl gr : Int64} {sL : Nat → Int64} {k w h : Nat} {sh : Nat → Nat} (H : Sys p gw gd gh ga gl gr sL k w h sh) (x : Int32) : (∃ r : Nat, r < h ∧ x = nI r ∧ fX1_hasRow gh x = some 1 ∧ fX8_in (Int32.toInt64 x) 0 (Int32.toInt64 (p 2 - 1)) = some 1) ∨ (fX1_hasRow gh x = some 0 ∧ fX8_in (Int32.toInt64 x) 0 (Int32.toInt64 (p 2 - 1)) = some 0) := by
  have hh := H.1.hh
  unfold fX1_hasRow
  rw [H.1.high, H.2.1.2.2.1, show nI h - 1 = nI (h - 1) from pk_sub (b := 1) (by omega)]
  have hb : (Int32.toInt64 (nI (h - 1))).toInt = ((h - 1 : Nat) : Int) := by rw [Int32.toInt_toInt64, nI_toInt (by omega)]
  rcases in_sp x (a := 0) (na := 0) rfl hb (by omega) with ⟨v, -, hv, rfl, e⟩ | ⟨e, q⟩
  · refine Or.inl ⟨v, by omega, rfl, ?_, e⟩
    rw [if_neg (nI_pos (by omega)), if_neg (nI_ge (by omega) (by omega))]
  · refine Or.inr ⟨?_, e⟩
    rcases q with q | q
    · rw [if_pos (by rw [Int32.lt_iff_toInt_lt]; exact q)]
    · have q9 : nI h ≤ x := by rw [Int32.le_iff_toInt_le, nI_toInt (by omega)]; omega
      by_cases z : x < 0
      · rw [if_pos z]
      · rw [if_neg z, if_pos q9]
theorem p_fracS (s : Int32) (hs : -2147483648 < s.toInt) {b : Nat} (h0 : 0 < b) (hb : b < 2 ^ 31) (x : Int32) : ∃ o, fX7_fraction s (nI b) x = some o ∧ fX8_fraction s (nI b) x = some o := by
  by_cases q : (0 : Int32) ≤ s
  · obtain ⟨a, ha, rfl⟩ := nI_of (x := s) (Int32.not_lt.mpr q)
    exact ⟨_, p_frac7 ha h0 hb x, p_frac8 ha h0 hb x⟩
  · have hn : s.toInt < 0 := by
      have := Int32.not_le.mp q
      rw [Int32.lt_iff_toInt_lt] at this
      exact this
    have hneg : (-s).toInt = -s.toInt := fb_negI (by omega)
    obtain ⟨a, ha, ea⟩ : ∃ a : Nat, a < 2 ^ 31 ∧ -s = nI a := nI_of (x := -s) (by
      rw [Int32.lt_iff_toInt_lt, hneg]
      show ¬ -s.toInt < 0
      omega)
    have hg := Nat.gcd_pos_of_pos_right a h0
    have hgb : Nat.gcd a b ≤ b := Nat.le_of_dvd h0 (Nat.gcd_dvd_right a b)
    have e := p_gcd7 31 a b 0 sh_fu ha hb hb (by omega) (by unfold sh_fu; omega)
    have e2 := p_gcd8 31 a b sh_fu ha hb hb (by unfold sh_fu; omega)
    rw [nI_0] at e
    have hgn : ¬ nI (Nat.gcd a b) = 0 := nI_ne0 hg (by omega)
    unfold fX7_fraction fX7_commonDivisor fX8_fraction fX8_divisor sh_abs
    rw [if_neg q, if_neg q, show (0 : Int32) - s = -s from Int32.zero_sub s, ea, sh_b1_s e, sh_b1_s rfl, if_neg hgn, sh_b1_s e2, sh_b1_s rfl]
    unfold sh_div
    rw [if_neg hgn, if_neg hgn]
    by_cases z : x = 0
    · rw [if_pos z]
      exact ⟨_, rfl, rfl⟩
    · rw [if_neg z]
      exact ⟨_, rfl, rfl⟩
theorem s_share {I : Nat → Int32} {J : Nat → Int64} {A : Nat → Nat → Int32} {B : Nat → Nat → Int64} {I2 : Nat → Int32} {S : Int64} {A2 : Nat → Nat → Int32} (HS : Sim I J A B I2 S A2) (x1 x2 x3 : Int32) : ∃ o I2' A2', fX7_share I J B x1 x2 x3 = some o ∧ fX8_share I2 A2 x1 x2 x3 = some (o, I2', A2') ∧ Sim I J A B I2' S A2' := by
  obtain ⟨k, w, h, sh, tn, dn, sn, H⟩ := HS
  have hh := H.1.1.hh
  have h64 := sm_pow64 hh.2
  unfold fX7_share fX8_share
  rcases row_sp H.1 x1 with ⟨r, hr, rfl, e1, e2⟩ | ⟨e1, e2⟩
  · rw [sh_b1_s e1, sh_b1_s e2, if_neg z10, if_neg z10]
    rcases shade_sp x2 with ⟨t, ht, rfl, e3, e4⟩ | ⟨e3, e4⟩
    · obtain ⟨f, e5, hf⟩ := p_share_L47 (k := k) (w := w) (h := h) (sh := sh) ht (nI r) x3 (2 ^ h) sh_fu 0 A2 (by omega) (by unfold sh_fu; omega) H.1.1 (fun j hj => absurd hj (Nat.not_lt_zero j))
      obtain ⟨o, e6, e7, b1, b2⟩ := p_share_L (A2 := va_up A2 11 f) H.1 (t := t) hr (fun j hj => by rw [va_up_self]; exact hf j hj) x3 (2 ^ h) sh_fu 0 0 (by omega) (by unfold sh_fu; omega) ⟨by decide, by decide⟩
      obtain ⟨f0, f1⟩ := sm_f h (by omega)
      have hgh : I 3 = nI h := H.1.2.1.2.2.1
      rw [sm_wt h (by omega) r hr, show nI (zwt h r 0) = 0 from rfl, nI_0] at e7
      rw [nI_0] at e5 e6
      obtain ⟨q, e8, e9⟩ := p_fracS o (by omega) f0 (by omega) x3
      rw [sh_b1_s e3, sh_b1_s e4, if_neg z10, if_neg z10, sh_b1_s (p_atLeast H.1.2.2 H.1.sh9 (by omega))]
      unfold fX7_sharedOut fX1_high
      rw [hgh, H.1.1.high, sh_b1_s rfl, sh_b1_s e6, sh_b1_s rfl, sh_b1_s rfl, sh_b1_s (sm_fac h (by omega)), sh_b1_s e8, sh_b1_s e5, sh_b2_s e7, sh_b1_s e9]
      exact ⟨_, _, _, rfl, rfl, (H.r.same (fun _ _ _ => rfl) (fun _ _ _ => rfl) (fun _ _ _ _ => rfl) (fun _ _ _ _ _ _ => rfl) pk_us (fun j _ _ _ h11 => va_up_ne _ _ h11)).s⟩
    · rw [sh_b1_s e3, sh_b1_s e4, if_pos rfl, if_pos rfl]
      exact ⟨_, _, _, rfl, rfl, H.r.s⟩
  · rw [sh_b1_s e1, sh_b1_s e2, if_pos rfl, if_pos rfl]
    exact ⟨_, _, _, rfl, rfl, H.r.s⟩
