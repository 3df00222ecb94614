/-! rows and orders -/
theorem sm_pow : ∀ h, h < 7 → ((1 : Int32) <<< (nI h &&& 31)) = nI (2 ^ h) := by decide +kernel
theorem sm_bit : ∀ m, m < 64 → ∀ r, r < 6 → (((nI m : Int32) >>> (nI r &&& 31)) &&& 1 = 0 ↔ m.testBit r = false) := by decide +kernel
theorem sm_zb : ∀ m, m < 64 → ∀ r, r < 6 → zb ((nI m).toInt64) r = m.testBit r := by decide +kernel
theorem sm_bc : ∀ m, m < 64 → fJ6_bitCount_0f7a4 (nI m) = some (nI (fb_ct (fun i => m.testBit i) 6)) := by decide +kernel
theorem sm_zn : ∀ m, m < 64 → zn ((nI m).toInt64) 36 = fb_ct (fun i => m.testBit i) 6 := by decide +kernel
theorem sm_or : ∀ m, m < 64 → ∀ r, r < 6 → (nI m ||| ((1 : Int32) <<< (nI r &&& 31))) = nI (m ||| 2 ^ r) := by decide +kernel
theorem sm_orlt : ∀ h, h < 7 → ∀ m, m < 2 ^ h → ∀ r, r < h → m ||| 2 ^ r < 2 ^ h := by
  intro h _ m hm r hr
  exact Nat.or_lt_two_pow hm (Nat.pow_lt_pow_right (by decide) hr)
theorem sm_pow64 {h : Nat} (hh : h ≤ 6) : 2 ^ h ≤ 64 := Nat.pow_le_pow_right (n := 2) (by decide) hh
def zfac : Nat → Nat
  | 0 => 1
  | n + 1 => (n + 1) * zfac n
theorem sm_fac : ∀ n, n < 7 → fX7_factorial (nI n) = some (nI (zfac n)) := by decide +kernel
theorem sm_ord : ∀ h, h < 7 → ∀ k, k < h → fX8_orders (nI h) (nI k) = some (nI (zfac k * zfac (h - 1 - k))) := by decide +kernel
/-- the dots of the rows of a mask -/
def zrw (w h m : Nat) (i : Nat) : Bool := decide (i < w * h) && m.testBit (i / w)
theorem p_rows_L {gd gh : Int32} {w h m : Nat} (hw : 1 ≤ w ∧ w ≤ 6) (hh : 1 ≤ h ∧ h ≤ 6) (hd : gd = nI w) (hg : gh = nI h) (hm : m < 64) : ∀ (r n j : Nat), j + r = h → r < n → fX1_rows_L5 n (nI m) (zs (fun i => decide (i < w * h) && (decide (i / w < j) && m.testBit (i / w)))) (nI j) gd gh = some (zs (fun i => decide (i < w * h) && (decide (i / w < h) && m.testBit (i / w)))) := by
  intro r
  induction r with
  | zero =>
    intro n j hj hn
    obtain ⟨n, rfl⟩ : ∃ x, n = x + 1 := ⟨n - 1, by omega⟩
    obtain rfl : j = h := by omega
    rw [fX1_rows_L5_s, hg, if_pos (nI_le (Nat.le_refl _) (by omega))]
  | succ r ih =>
    intro n j hj hn
    obtain ⟨n, rfl⟩ : ∃ x, n = x + 1 := ⟨n - 1, by omega⟩
    have hs := ih n (j + 1) (by omega) (by omega)
    have hsplit : ∀ i, (decide (i / w < j + 1) && m.testBit (i / w)) = ((decide (i / w < j) && m.testBit (i / w)) || (decide (i / w = j) && m.testBit j)) := fun i => by
      by_cases q : i / w = j
      · rw [q]; simp
      · have : (i / w < j + 1) ↔ (i / w < j) := by omega
        simp [q, this]
    rw [fX1_rows_L5_s, hg, if_neg (nI_ge (by omega) (by omega))]
    unfold fX1_row
    rw [sh_b1_s rfl, hd, row_all w (by omega) h (by omega) (by omega) (by omega) j (by omega), zs_or, nI_1]
    cases hb : m.testBit j with
    | false =>
      rw [if_pos ((sm_bit m hm j (by omega)).mpr hb)]
      rw [show (fun i => decide (i < w * h) && (decide (i / w < j + 1) && m.testBit (i / w))) = (fun i => decide (i < w * h) && (decide (i / w < j) && m.testBit (i / w))) from funext fun i => by rw [hsplit i, hb]; simp, hd, hg] at hs
      exact hs
    | true =>
      rw [if_neg (fun z => by have := (sm_bit m hm j (by omega)).mp z; rw [hb] at this; exact nomatch this)]
      rw [show (fun i => decide (i < w * h) && (decide (i / w < j + 1) && m.testBit (i / w))) = (fun i => (decide (i < w * h) && (decide (i / w < j) && m.testBit (i / w))) || (decide (i < w * h) && decide (i / w = j))) from funext fun i => by rw [hsplit i, hb]; cases decide (i < w * h) <;> simp, hd, hg] at hs
      exact hs
theorem p_rowsM7 {gd gh : Int32} {w h m : Nat} (hw : 1 ≤ w ∧ w ≤ 6) (hh : 1 ≤ h ∧ h ≤ 6) (hd : gd = nI w) (hg : gh = nI h) (hm : m < 64) : fX1_rows gd gh (nI m) = some (zs (zrw w h m)) := by
  unfold fX1_rows
  have e := p_rows_L hw hh hd hg hm h sh_fu 0 (by omega) (by unfold sh_fu; omega)
  rw [show zs (fun i => decide (i < w * h) && (decide (i / w < 0) && m.testBit (i / w))) = 0 from by rw [← zs_F]; exact zs_cong (fun i _ => by simp), nI_0] at e
  rw [sh_b1_s e]
  congr 1
  refine zs_cong (fun i _ => ?_)
  unfold zrw
  by_cases q : i < w * h
  · rw [decide_eq_true (show i / w < h from Nat.div_lt_of_lt_mul q), Bool.true_and]
  · rw [decide_eq_false q]; rfl
theorem p_rows8_L {A2 : Nat → Nat → Int32} {k w h m : Nat} {sh : Nat → Nat} (H : Pic (A2 2) k w h sh) (hm : m < 64) : ∀ (r n d : Nat), d + r = w * h → r < n → fX8_rows_L5 n (nI m) (zI (zrw w h m) d) (nI d) A2 = some (zI (zrw w h m) (w * h)) := by
  have h36 := H.n36
  have hw := H.ww
  have hh := H.hh
  intro r
  induction r with
  | zero =>
    intro n d hd hn
    obtain ⟨n, rfl⟩ : ∃ x, n = x + 1 := ⟨n - 1, by omega⟩
    obtain rfl : d = w * h := by omega
    rw [fX8_rows_L5_s, sh_b1_s H.dots, if_pos (nI_le (Nat.le_refl _) (by omega))]
  | succ r ih =>
    intro n d hd hn
    obtain ⟨n, rfl⟩ : ∃ x, n = x + 1 := ⟨n - 1, by omega⟩
    have hs := ih n (d + 1) (by omega) (by omega)
    have hdn : d < w * h := by omega
    have hr : d / w < h := Nat.div_lt_of_lt_mul hdn
    rw [fX8_rows_L5_s, sh_b1_s H.dots, if_neg (nI_ge (by omega) (by omega)), H.wide, sh_b1_s (sh_div_n (by omega) (by omega) (by omega)), sh_b1_s (p_has _ (by omega)), sm_zb m hm _ (by omega), nI_1, z_or0]
    have hz : zrw w h m d = m.testBit (d / w) := by unfold zrw; rw [decide_eq_true hdn, Bool.true_and]
    cases hb : m.testBit (d / w) with
    | false => rw [if_pos z01_f, zI_f (hz.trans hb)]; exact hs
    | true => rw [if_neg z01_t, zI_t (hz.trans hb)]; exact hs
theorem p_rowsM8 {A2 : Nat → Nat → Int32} {k w h m : Nat} {sh : Nat → Nat} (H : Pic (A2 2) k w h sh) (hm : m < 64) : fX8_rows A2 (nI m) = some (zs (zrw w h m)) := by
  unfold fX8_rows
  have h36 := H.n36
  have e := p_rows8_L H hm (w * h) sh_fu 0 (by omega) (by unfold sh_fu; omega)
  rw [zI_s h36 (fun i hi => by unfold zrw at hi; rw [Bool.and_eq_true] at hi; exact of_decide_eq_true hi.1), show zI (zrw w h m) 0 = 0 from rfl, nI_0] at e
  rw [sh_b1_s e]
