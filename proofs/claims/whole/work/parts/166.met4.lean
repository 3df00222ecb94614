/-! passes, and fractions -/
theorem p_pass_L {I : Nat → Int32} {J : Nat → Int64} {A : Nat → Nat → Int32} {B : Nat → Nat → Int64} {A2 : Nat → Nat → Int32} {k w h : Nat} {sh : Nat → Nat} (H : Sys (A2 2) (I 1) (I 2) (I 3) (J 0) (J 1) (J 2) (B 0) k w h sh) {a b : Nat} (ha : a < w * h) (hb : b < w * h) : ∀ (t n : Nat), t ≤ 9 → t < n → ∃ s, fX7_pass_L27 n (nI a) (nI b) (nI t) I J A B = some (if s = 0 then .inr () else .inl (nI s)) ∧ fX8_pass_L26 n (nI a) (nI b) (nI t) A2 = some (nI s) := by
  have h36 := H.1.n36
  have hC36 : ∀ t i, zC k w h sh t a i = true → i < 36 := fun t i hi => Nat.lt_of_lt_of_le (zC_lt hi) h36
  intro t
  induction t with
  | zero =>
    intro n _ hn
    obtain ⟨n, rfl⟩ : ∃ m, n = m + 1 := ⟨n - 1, by omega⟩
    refine ⟨0, ?_, ?_⟩
    · rw [fX7_pass_L27_s, if_pos (show nI 0 ≤ 0 by decide), if_pos rfl]
    · rw [fX8_pass_L26_s, sh_b1_s (p_partC H.1 (by omega) (by omega)), sh_b1_s (p_has _ (by omega)), zb_zs' (hC36 0), show zC k w h sh 0 a b = true by rw [zC_0 H.1 ha]; exact decide_eq_true hb, if_neg z01_t]
  | succ t ih =>
    intro n ht hn
    obtain ⟨n, rfl⟩ : ∃ m, n = m + 1 := ⟨n - 1, by omega⟩
    unfold fX1_way at *
    rw [fX7_pass_L27_s, if_neg (nI_nle (by omega) (by omega)), sh_b1_s (p_atLeast H.2.2 H.sh9 (by omega))]
    unfold fX1_way
    rw [sh_b1_s rfl, H.2.1.1, sh_b1_s (p_joined7 H H.1.kk (fun i hi => up_lt hi) ha hb), fX8_pass_L26_s, sh_b1_s (p_partC H.1 (by omega) (by omega)), sh_b1_s (p_has _ (by omega)), zb_zs' (hC36 (t + 1)), z_m1, nI_pred]
    rw [show zp k w (up (w * h) sh (t + 1)) a b = zC k w h sh (t + 1) a b from rfl]
    cases hz : zC k w h sh (t + 1) a b with
    | false =>
      rw [if_pos z01_f, if_pos z01_f]
      exact ih n (by omega) (by omega)
    | true =>
      rw [if_neg z01_t, if_neg z01_t]
      exact ⟨t + 1, by rw [if_neg (by omega)], rfl⟩
theorem s_pass {I : Nat → Int32} {J : Nat → Int64} {A : Nat → Nat → Int32} {B : Nat → Nat → Int64} {I2 : Nat → Int32} {S : Int64} {A2 : Nat → Nat → Int32} (HS : Sim I J A B I2 S A2) (x1 x2 : Int32) : ∃ o I2', fX7_pass I J A B x1 x2 = some o ∧ fX8_pass I2 A2 x1 x2 = some (o, I2') ∧ Sim I J A B I2' S A2 := by
  obtain ⟨k, w, h, sh, tn, dn, sn, H⟩ := HS
  unfold fX7_pass fX8_pass
  rcases dot_sp H.1 rfl x1 with ⟨a, ha, rfl, e1, e2⟩ | ⟨e1, e2⟩
  · rw [sh_b1_s e1, sh_b1_s e2, if_neg z10, if_pos rfl]
    rcases dot_sp H.1 rfl x2 with ⟨b, hb, rfl, e3, e4⟩ | ⟨e3, e4⟩
    · obtain ⟨s, e5, e6⟩ := p_pass_L (A := A) H.1 ha hb 9 sh_fu (by omega) (by unfold sh_fu; omega)
      rw [sh_b1_s e3, sh_b1_s e4, if_neg z10, if_pos rfl, show (9 : Int32) = nI 9 from rfl, sh_b1_s e6]
      by_cases q : s = 0
      · rw [if_pos q] at e5
        rw [sh_bs_r e5, q]
        exact ⟨_, _, rfl, rfl, H.r.s⟩
      · rw [if_neg q] at e5
        rw [sh_bs_l e5]
        exact ⟨_, _, rfl, rfl, H.r.s⟩
    · rw [sh_b1_s e3, sh_b1_s e4, if_pos rfl, if_neg z10]
      exact ⟨_, _, rfl, rfl, H.r.s⟩
  · rw [sh_b1_s e1, sh_b1_s e2, if_pos rfl, if_neg z10]
    exact ⟨_, _, rfl, rfl, H.r.s⟩
/-! the greatest common divisor -/
theorem gcd_step (a b : Nat) : Nat.gcd b (a % b) = Nat.gcd a b := by
  rw [Nat.gcd_comm b (a % b), ← Nat.gcd_rec b a, Nat.gcd_comm]
theorem mod_half {b r : Nat} (h0 : 0 < r) (hr : r < b) : 2 * (b % r) < b := by
  have h1 := Nat.div_add_mod b r
  have h2 : 1 ≤ b / r := (Nat.one_le_div_iff h0).mpr (by omega)
  have h3 := Nat.mod_lt b h0
  have h4 : r * 1 ≤ r * (b / r) := Nat.mul_le_mul_left r h2
  omega
theorem p_gcd7 : ∀ (j a b c n : Nat), a < 2 ^ 31 → b < 2 ^ 31 → b < 2 ^ j → c + 2 * j ≤ 62 → 2 * j < n → fX7_commonDivisor_L7 n (nI a) (nI b) (nI c) = some (nI (Nat.gcd a b)) := by
  intro j
  induction j with
  | zero =>
    intro a b c n ha hb hbj hc hn
    obtain ⟨n, rfl⟩ : ∃ m, n = m + 1 := ⟨n - 1, by omega⟩
    obtain rfl : b = 0 := by omega
    rw [fX7_commonDivisor_L7_s, if_neg (show ¬ (64 : Int32) ≤ nI c from nI_ge (b := 64) (by omega) (by omega)), if_pos (show nI 0 = 0 from rfl), Nat.gcd_zero_right]
  | succ j ih =>
    intro a b c n ha hb hbj hc hn
    obtain ⟨n, rfl⟩ : ∃ m, n = m + 1 := ⟨n - 1, by omega⟩
    rw [fX7_commonDivisor_L7_s, if_neg (show ¬ (64 : Int32) ≤ nI c from nI_ge (b := 64) (by omega) (by omega))]
    by_cases q : b = 0
    · subst q
      rw [if_pos (show nI 0 = 0 from rfl), Nat.gcd_zero_right]
    · have hr := Nat.mod_lt a (show 0 < b by omega)
      rw [if_neg (nI_ne0 (by omega) hb), sh_b1_s (sh_rem_n ha (by omega) hb), nI_1]
      obtain ⟨n, rfl⟩ : ∃ m, n = m + 1 := ⟨n - 1, by omega⟩
      rw [fX7_commonDivisor_L7_s, if_neg (show ¬ (64 : Int32) ≤ nI (c + 1) from nI_ge (b := 64) (by omega) (by omega)), ← gcd_step a b]
      by_cases q2 : a % b = 0
      · rw [q2, if_pos (show nI 0 = 0 from rfl), Nat.gcd_zero_right]
      · have hh := mod_half (b := b) (r := a % b) (by omega) hr
        rw [if_neg (nI_ne0 (by omega) (by omega)), sh_b1_s (sh_rem_n hb (by omega) (by omega)), nI_1, ← gcd_step b (a % b)]
        rw [Nat.pow_succ] at hbj
        exact ih (a % b) (b % (a % b)) (c + 1 + 1) n (by omega) (by omega) (by omega) (by omega) (by omega)
theorem p_gcd8 : ∀ (j a b n : Nat), a < 2 ^ 31 → b < 2 ^ 31 → b < 2 ^ j → 2 * j < n → fX8_divisor_L13 n (nI a) (nI b) = some (nI (Nat.gcd a b)) := by
  intro j
  induction j with
  | zero =>
    intro a b n ha hb hbj hn
    obtain ⟨n, rfl⟩ : ∃ m, n = m + 1 := ⟨n - 1, by omega⟩
    obtain rfl : b = 0 := by omega
    rw [fX8_divisor_L13_s, if_pos (show nI 0 = 0 from rfl), Nat.gcd_zero_right]
  | succ j ih =>
    intro a b n ha hb hbj hn
    obtain ⟨n, rfl⟩ : ∃ m, n = m + 1 := ⟨n - 1, by omega⟩
    rw [fX8_divisor_L13_s]
    by_cases q : b = 0
    · subst q
      rw [if_pos (show nI 0 = 0 from rfl), Nat.gcd_zero_right]
    · have hr := Nat.mod_lt a (show 0 < b by omega)
      rw [if_neg (nI_ne0 (by omega) hb), sh_b1_s (sh_rem_n ha (by omega) hb)]
      obtain ⟨n, rfl⟩ : ∃ m, n = m + 1 := ⟨n - 1, by omega⟩
      rw [fX8_divisor_L13_s, ← gcd_step a b]
      by_cases q2 : a % b = 0
      · rw [q2, if_pos (show nI 0 = 0 from rfl), Nat.gcd_zero_right]
      · have hh := mod_half (b := b) (r := a % b) (by omega) hr
        rw [if_neg (nI_ne0 (by omega) (by omega)), sh_b1_s (sh_rem_n hb (by omega) (by omega)), ← gcd_step b (a % b)]
        rw [Nat.pow_succ] at hbj
        exact ih (a % b) (b % (a % b)) n (by omega) (by omega) (by omega) (by omega)
/-- a fraction in its lowest terms: upper and lower -/
def zfr (a b : Nat) (x : Int32) : Nat := if x = 0 then b / Nat.gcd a b else a / Nat.gcd a b
theorem p_frac7 {a b : Nat} (ha : a < 2 ^ 31) (h0 : 0 < b) (hb : b < 2 ^ 31) (x : Int32) : fX7_fraction (nI a) (nI b) x = some (nI (zfr a b x)) := by
  unfold fX7_fraction fX7_commonDivisor sh_abs zfr
  have hg := Nat.gcd_pos_of_pos_right a h0
  have hgb : Nat.gcd a b ≤ b := Nat.le_of_dvd h0 (Nat.gcd_dvd_right a b)
  have e := p_gcd7 31 a b 0 sh_fu ha hb hb (by omega) (by unfold sh_fu; omega)
  rw [nI_0] at e
  rw [if_pos (nI_pos' ha), sh_b1_s e, sh_b1_s rfl, if_neg (nI_ne0 hg (by omega))]
  by_cases q : x = 0
  · rw [if_pos q, if_pos q, sh_b1_s (sh_div_n hb hg (by omega))]
  · rw [if_neg q, if_neg q, sh_b1_s (sh_div_n ha hg (by omega))]
theorem p_frac8 {a b : Nat} (ha : a < 2 ^ 31) (h0 : 0 < b) (hb : b < 2 ^ 31) (x : Int32) : fX8_fraction (nI a) (nI b) x = some (nI (zfr a b x)) := by
  unfold fX8_fraction fX8_divisor zfr
  have hg := Nat.gcd_pos_of_pos_right a h0
  have hgb : Nat.gcd a b ≤ b := Nat.le_of_dvd h0 (Nat.gcd_dvd_right a b)
  have e := p_gcd8 31 a b sh_fu ha hb hb (by unfold sh_fu; omega)
  rw [if_pos (nI_pos' ha), sh_b1_s e, sh_b1_s rfl]
  by_cases q : x = 0
  · rw [if_pos q, if_pos q, sh_b1_s (sh_div_n hb hg (by omega))]
  · rw [if_neg q, if_neg q, sh_b1_s (sh_div_n ha hg (by omega))]
theorem s_grows {I : Nat → Int32} {J : Nat → Int64} {A : Nat → Nat → Int32} {B : Nat → Nat → Int64} {I2 : Nat → Int32} {S : Int64} {A2 : Nat → Nat → Int32} (HS : Sim I J A B I2 S A2) (x1 x2 x3 : Int32) : ∃ o I2', fX7_grows I J B x1 x2 x3 = some o ∧ fX8_grows I2 A2 x1 x2 x3 = some (o, I2') ∧ Sim I J A B I2' S A2 := by
  obtain ⟨k, w, h, sh, tn, dn, sn, H⟩ := HS
  have h36 := H.1.1.n36
  unfold fX7_grows fX8_grows
  rcases dot_sp H.1 rfl x1 with ⟨d, hd, rfl, e1, e2⟩ | ⟨e1, e2⟩
  · rw [sh_b1_s e1, sh_b1_s e2, if_neg z10, if_pos rfl]
    rcases step_sp x2 with ⟨v, h1, hv, rfl, e3, e4⟩ | ⟨e3, e4⟩
    · obtain ⟨e, he⟩ := nd_dot (k := k) (sh := sh) hd
      have hn8 : fX8_nodeOf (A2 2) (nI d) = some (zs (zC k w h sh (sh d) d)) := p_nodeOf H.1.1 hd
      have hga : fb_ct (fun i => zC k w h sh (sh d - v) e i && !zC k w h sh (sh d) d i) 36 = zga k w h sh v (sh d) e := by unfold zga; rw [← he.2]
      have hnn : fb_ct (zC k w h sh (sh d) d) 36 = znn k w h sh (sh d) e := by unfold znn; rw [← he.2]
      have g1 := zga_le k w h sh v (sh d) e
      have n1 := znn_le k w h sh (sh d) e
      have n0 : 0 < znn k w h sh (sh d) e := by
        rw [← hnn]
        exact fb_ct_pos.mpr ⟨d, by omega, zC_self hd (Nat.le_refl _)⟩
      rw [sh_b1_s e3, sh_b1_s e4, if_neg z10, if_neg z10, sh_b1_s (p_nodeOf7 H.1 hd), sh_b1_s (p_of H.1.2.2 h36 H.1.sh9 hd), sh_b1_s (p_gain7 H.1 he hv), sh_b1_s (p_bcs _), hga, hnn, sh_b1_s (p_frac7 (by omega) n0 (by omega) x3), sh_b1_s hn8, sh_b1_s (p_layGrown H.1.1 he hv _)]
      rw [show ∀ (f : Nat → Int32) (a b : Int32), upd (upd f 4 a) 5 b 4 = a from fun f a b => by rw [pk_un (by omega), pk_us], show ∀ (f : Nat → Int32) (a b : Int32), upd (upd f 4 a) 5 b 5 = b from fun f a b => pk_us, sh_b1_s (p_frac8 (by omega) n0 (by omega) x3)]
      exact ⟨_, _, rfl, rfl, (H.r.same (fun _ _ _ => rfl) (fun _ _ _ => rfl) (fun _ _ _ _ => rfl) (fun j _ h4 h5 _ _ => by rw [pk_un h5, pk_un h4]) (by rw [pk_un (by omega), pk_un (by omega), pk_us]) (fun _ _ _ _ _ => rfl)).s⟩
    · rw [sh_b1_s e3, sh_b1_s e4, if_pos rfl, if_pos rfl]
      exact ⟨_, _, rfl, rfl, H.r.s⟩
  · rw [sh_b1_s e1, sh_b1_s e2, if_pos rfl, if_neg z10]
    exact ⟨_, _, rfl, rfl, H.r.s⟩
