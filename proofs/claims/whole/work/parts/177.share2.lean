/-! the shares -/
theorem zcnt_cong {k w : Nat} {S T : Nat → Bool} (h : ∀ i, S i = T i) : zcnt k w S = zcnt k w T := by rw [show S = T from funext h]
noncomputable def zV (k w h : Nat) (sh : Nat → Nat) (t m : Nat) : Nat := zcnt k w (fun i => up (w * h) sh t i && zrw w h m i)
theorem zV_le (k w h : Nat) (sh : Nat → Nat) (t m : Nat) : zV k w h sh t m ≤ 36 := fb_ct_le _ _
theorem p_partsRows {I : Nat → Int32} {J : Nat → Int64} {p : Nat → Int32} {sL : Nat → Int64} {k w h : Nat} {sh : Nat → Nat} (H : Sys p (I 1) (I 2) (I 3) (J 0) (J 1) (J 2) sL k w h sh) {m : Nat} (hm : m < 64) (t : Nat) : fX7_partsOfRows I J (zs (up (w * h) sh t)) (nI m) = some (nI (zV k w h sh t m)) := by
  unfold fX7_partsOfRows fX1_way
  rw [sh_b1_s (p_rowsM7 H.1.ww H.1.hh H.2.1.2.1 H.2.1.2.2.1 hm), sh_b1_s rfl, zs_and, H.2.1.1, sh_b1_s (p_countParts H.2.1 H.1.kk (fun i hi => by rw [Bool.and_eq_true] at hi; exact up_lt hi.1))]
  rfl
theorem p_partsRows8 {A2 : Nat → Nat → Int32} {k w h : Nat} {sh : Nat → Nat} (H : Pic (A2 2) k w h sh) {t : Nat} (ht : t ≤ 9) (m : Nat) : fX8_partsOf (A2 2) (nI t) (zs (zrw w h m)) = some (nI (zV k w h sh t m)) := by
  have h36 := H.n36
  rw [p_partsOf H (by omega)]
  unfold zV
  rw [zcnt_cong (fun i => by rw [zb_zs' (fun i hi => by unfold zrw at hi; rw [Bool.and_eq_true] at hi; exact Nat.lt_of_lt_of_le (of_decide_eq_true hi.1) h36)])]
theorem p_share_L47 {k w h : Nat} {sh : Nat → Nat} {t : Nat} (ht : t ≤ 9) (x1 x3 : Int32) : ∀ (r n m : Nat) (A2 : Nat → Nat → Int32), m + r = 2 ^ h → r < n → Pic (A2 2) k w h sh → (∀ j, j < m → A2 11 j = nI (zV k w h sh t j)) → ∃ f, fX8_share_L47 n x1 (nI t) x3 (nI h) (nI m) A2 = some (va_up A2 11 f) ∧ ∀ j, j < 2 ^ h → f j = nI (zV k w h sh t j) := by
  intro r
  induction r with
  | zero =>
    intro n m A2 hm hn H hf
    have hh := H.hh
    have h64 := sm_pow64 hh.2
    obtain ⟨n, rfl⟩ : ∃ x, n = x + 1 := ⟨n - 1, by omega⟩
    obtain rfl : m = 2 ^ h := by omega
    rw [fX8_share_L47_s, sm_pow h (by omega), if_pos (nI_le (Nat.le_refl _) (by omega))]
    exact ⟨A2 11, by rw [va_up_id], hf⟩
  | succ r ih =>
    intro n m A2 hm hn H hf
    have hh := H.hh
    have h64 := sm_pow64 hh.2
    obtain ⟨n, rfl⟩ : ∃ x, n = x + 1 := ⟨n - 1, by omega⟩
    rw [fX8_share_L47_s, sm_pow h (by omega), if_neg (nI_ge (by omega) (by omega)), sh_b1_s (p_rowsM8 H (by omega)), sh_b1_s (p_partsRows8 H ht m), sh_b1_s (sh_ast_n (by omega) (by omega)), nI_1]
    obtain ⟨f, e, hf2⟩ := ih n (m + 1) (va_up A2 11 (upd (A2 11) m (nI (zV k w h sh t m)))) (by omega) (by omega) (by rw [va_up_ne _ _ (by omega)]; exact H) (fun j hj => by
      rw [va_up_self]
      by_cases q : j = m
      · rw [q, pk_us]
      · rw [pk_un q]; exact hf j (by omega))
    rw [va_up_up] at e
    exact ⟨f, e, hf2⟩
def zpc (m : Nat) : Nat := fb_ct (fun i => m.testBit i) 6
theorem sm_pc : ∀ h, h < 7 → ∀ m, m < 2 ^ h → ∀ r, r < h → m.testBit r = false → zpc m < h := by decide +kernel
def zwt (h r : Nat) : Nat → Nat
  | 0 => 0
  | m + 1 => zwt h r m + (if m.testBit r then 0 else zfac (zpc m) * zfac (h - 1 - zpc m))
theorem sm_wt : ∀ h, h < 7 → ∀ r, r < h → zwt h r (2 ^ h) = zfac h := by decide +kernel
theorem sm_w : ∀ h, h < 7 → ∀ k, k < h → zfac k * zfac (h - 1 - k) ≤ 120 := by decide +kernel
theorem sm_f : ∀ h, h < 7 → 0 < zfac h ∧ zfac h ≤ 720 := by decide +kernel
theorem sm_term {F a b : Nat} (hF : F ≤ 120) (ha : a ≤ 36) (hb : b ≤ 36) : -4320 ≤ (nI F * (nI a - nI b)).toInt ∧ (nI F * (nI a - nI b)).toInt ≤ 4320 := by
  have h1 := pk_sub_toInt (a := a) (b := b) (by omega) (by omega)
  have h2 : (nI F).toInt = (F : Int) := nI_toInt (by omega)
  have h5 : (F : Int) * ((a : Int) - b) ≤ 4320 := by
    have := Int.mul_le_mul_of_nonneg_left (show (a : Int) - b ≤ 36 by omega) (show (0 : Int) ≤ F by omega)
    have := Int.mul_le_mul_of_nonneg_right (show (F : Int) ≤ 120 by omega) (show (0 : Int) ≤ 36 by omega)
    omega
  have h6 : -4320 ≤ (F : Int) * ((a : Int) - b) := by
    have := Int.mul_le_mul_of_nonneg_left (show (-36 : Int) ≤ (a : Int) - b by omega) (show (0 : Int) ≤ F by omega)
    have := Int.mul_le_mul_of_nonneg_right (show (F : Int) ≤ 120 by omega) (show (0 : Int) ≤ 36 by omega)
    omega
  rw [fb_mulI (by rw [h1, h2]; omega) (by rw [h1, h2]; omega), h1, h2]
  exact ⟨h6, h5⟩
theorem p_share_L {I : Nat → Int32} {J : Nat → Int64} {p : Nat → Int32} {sL : Nat → Int64} {A2 : Nat → Nat → Int32} {k w h : Nat} {sh : Nat → Nat} (H : Sys p (I 1) (I 2) (I 3) (J 0) (J 1) (J 2) sL k w h sh) {t r0 : Nat} (hr0 : r0 < h) (hf : ∀ j, j < 2 ^ h → A2 11 j = nI (zV k w h sh t j)) (x3 : Int32) : ∀ (r n m : Nat) (s : Int32), m + r = 2 ^ h → r < n → (-(4320 * (m : Int)) ≤ s.toInt ∧ s.toInt ≤ 4320 * (m : Int)) → ∃ o : Int32, fX7_sharedOut_L15 n (zs (up (w * h) sh t)) (nI r0) (nI h) s (nI m) I J = some o ∧ fX8_share_L92 n (nI r0) x3 (nI h) s (nI (zwt h r0 m)) (nI m) A2 = some (o, nI (zwt h r0 (2 ^ h))) ∧ (-(4320 * 64) ≤ o.toInt ∧ o.toInt ≤ 4320 * 64) := by
  have hh := H.1.hh
  have h64 := sm_pow64 hh.2
  intro r
  induction r with
  | zero =>
    intro n m s hm hn hs
    obtain ⟨n, rfl⟩ : ∃ x, n = x + 1 := ⟨n - 1, by omega⟩
    obtain rfl : m = 2 ^ h := by omega
    rw [fX7_sharedOut_L15_s, sm_pow h (by omega), if_pos (nI_le (Nat.le_refl _) (by omega)), fX8_share_L92_s, sm_pow h (by omega), if_pos (nI_le (Nat.le_refl _) (by omega))]
    generalize 2 ^ h = M at *
    exact ⟨s, rfl, rfl, by omega, by omega⟩
  | succ r ih =>
    intro n m s hm hn hs
    obtain ⟨n, rfl⟩ : ∃ x, n = x + 1 := ⟨n - 1, by omega⟩
    rw [fX7_sharedOut_L15_s, sm_pow h (by omega), if_neg (nI_ge (by omega) (by omega)), fX8_share_L92_s, sm_pow h (by omega), if_neg (nI_ge (by omega) (by omega)), sh_b1_s (p_has _ (by omega)), sm_zb m (by omega) r0 (by omega)]
    cases hb : m.testBit r0 with
    | true =>
      rw [if_neg (fun z => by have := (sm_bit m (by omega) r0 (by omega)).mp z; rw [hb] at this; exact nomatch this), if_neg z01_t, nI_1]
      have := ih n (m + 1) s (by omega) (by omega) (by omega)
      rw [show zwt h r0 (m + 1) = zwt h r0 m from by rw [zwt, hb]; rfl] at this
      exact this
    | false =>
      have hpc := sm_pc h (by omega) m (by omega) r0 hr0 hb
      have hor := sm_orlt h (by omega) m (by omega) r0 hr0
      have hFw := sm_w h (by omega) (zpc m) hpc
      have hterm := sm_term hFw (zV_le k w h sh t (m ||| 2 ^ r0)) (zV_le k w h sh t m)
      rw [if_pos ((sm_bit m (by omega) r0 (by omega)).mpr hb), if_pos z01_f, sh_b1_s (sm_bc m (by omega)), show fb_ct (fun i => m.testBit i) 6 = zpc m from rfl, sh_b1_s (sm_fac _ (by omega)), show nI h - 1 - nI (zpc m) = nI (h - 1 - zpc m) from by rw [show (1 : Int32) = nI 1 from rfl, pk_sub (by omega), pk_sub (by omega)], sh_b1_s (sm_fac _ (by omega)), sm_or m (by omega) r0 (by omega), sh_b1_s (p_partsRows H (by omega) t), sh_b1_s (p_partsRows H (by omega) t), pk_mul, sh_b1_s (p_many _), sm_zn m (by omega), show fb_ct (fun i => m.testBit i) 6 = zpc m from rfl, sh_b1_s (sm_ord h (by omega) _ hpc), sh_b1_s (sh_ald_n (by omega) (by omega)), sh_b1_s (sh_ald_n (by omega) (by omega)), hf _ hor, hf m (by omega), nI_1, nI_add]
      generalize nI (zfac (zpc m) * zfac (h - 1 - zpc m)) * (nI (zV k w h sh t (m ||| 2 ^ r0)) - nI (zV k w h sh t m)) = d at hterm
      have hsum : (s + d).toInt = s.toInt + d.toInt := fb_addI (by omega) (by omega)
      have := ih n (m + 1) (s + d) (by omega) (by omega) (by rw [hsum]; omega)
      rw [show zwt h r0 (m + 1) = zwt h r0 m + zfac (zpc m) * zfac (h - 1 - zpc m) from by rw [zwt, hb]; rfl] at this
      exact this
