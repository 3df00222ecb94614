/-! the head of a text -/
theorem p_dots {p : Nat → Int32} {w h : Nat} (h1 : p 1 = nI w) (h2 : p 2 = nI h) : fX8_dotsOf p = some (nI (w * h)) := by
  unfold fX8_dotsOf
  rw [h1, h2, pk_mul]
/-- one figure of the head -/
theorem p_L72 {I : Nat → Int32} {S : Int64} {xL : Nat → Int32} {c : Nat → Nat} {tn : Nat} (hI : I 1 = nI tn) (h40 : tn ≤ 40) (hx : ∀ j, j < tn → xL j = nI (c j) ∧ c j ≤ 255) {A : Nat → Nat → Int32} (hA : ∀ j, j < tn → A 0 j = xL j) {i : Nat} (hi : i < 3) (m : Nat) (hit : i + 1 ≤ tn) : fX8_readPicture_L72 (m + 1) (nI i) I S A = (if tn = i + 1 then some (.inl (nI (i + 1), va_up A 1 (upd (A 1) i (-9 - 48)))) else if 49 ≤ c (i + 1) ∧ c (i + 1) ≤ 54 then fX8_readPicture_L72 m (nI (i + 1)) I S (va_up A 1 (upd (A 1) i (nI (c (i + 1) - 48)))) else some (.inl (nI (i + 1), va_up A 1 (upd (A 1) i (nI (c (i + 1)) - 48))))) := by
  rw [fX8_readPicture_L72_s, if_neg (show ¬ (3 : Int32) ≤ nI i from nI_ge (b := 3) hi (by omega)), nI_1]
  by_cases q : tn = i + 1
  · rw [if_pos q, sh_b1_s (lt_no hI (by omega) (by omega)), sh_b1_s (sh_ast_n (by omega) (by omega)), sh_b1_s (sh_ald_n (by omega) (by omega)), pk_us, sh_b1_s z_57a, if_pos rfl]
  · obtain ⟨x1, x2⟩ := hx (i + 1) (by omega)
    rw [if_neg q, sh_b1_s (lt_at hI h40 (by omega)), hA _ (by omega), x1, sh_b1_s (sh_ast_n (by omega) (by omega)), sh_b1_s (sh_ald_n (by omega) (by omega)), pk_us, sh_b1_s (fg_in (a := 1) (b := 6) x2 rfl rfl)]
    by_cases q2 : 49 ≤ c (i + 1) ∧ c (i + 1) ≤ 54
    · rw [if_pos q2, decide_eq_true (show 1 + 48 ≤ c (i + 1) ∧ c (i + 1) ≤ 6 + 48 by omega), if_neg z01_t, show nI (c (i + 1)) - 48 = nI (c (i + 1) - 48) from pk_sub (b := 48) (by omega)]
    · rw [if_neg q2, decide_eq_false (show ¬ (1 + 48 ≤ c (i + 1) ∧ c (i + 1) ≤ 6 + 48) by omega), if_pos z01_f]
theorem p_head {I : Nat → Int32} {S : Int64} {xL : Nat → Int32} {c : Nat → Nat} {tn k : Nat} (hk : k = 4 ∨ k = 8) (hI : I 1 = nI tn) (h40 : tn ≤ 40) (hx : ∀ j, j < tn → xL j = nI (c j) ∧ c j ≤ 255) {A : Nat → Nat → Int32} (hA : ∀ j, j < tn → A 0 j = xL j) (hA0 : A 1 0 = nI k) (hit : 2 ≤ tn) (n m : Nat) (hn : 40 ≤ n) : ∃ o f, sh_bs (fX5_firstFault_L2 n (nI 2) xL (nI tn)) (fun _ => if nI tn < 4 then some (nI tn) else sh_b1 (fX5_wholeSize xL) fun v9 => if nI tn = v9 then some (-9) else some (nI tn)) = some o ∧ sh_bs (fX8_readPicture_L72 (m + 3) (nI 1) I S A) (fun t22 => sh_b1 (fX8_dotsOf (t22 1)) fun v23 => sh_bs (fX8_readPicture_L130 sh_fu v23 0 I S t22) fun t35 => if I 1 = 4 + v23 then some (-9, t35) else some (4 + v23, t35)) = some (o, va_up A 1 f) ∧ ((o = -9 ∧ ∃ w h, (1 ≤ w ∧ w ≤ 6) ∧ (1 ≤ h ∧ h ≤ 6) ∧ xL 2 = nI (48 + w) ∧ xL 3 = nI (48 + h) ∧ tn = 4 + w * h ∧ Pic f k w h (fun j => c (4 + j) - 48) ∧ ∀ j, j < w * h → 48 ≤ c (4 + j)) ∨ ∃ x : Nat, x ≤ 40 ∧ o = nI x) := by
  obtain ⟨n, rfl⟩ : ∃ x, n = x + 1 := ⟨n - 1, by omega⟩
  rw [p_L72 hI h40 hx hA (show 1 < 3 by omega) (m + 2) hit]
  by_cases q : tn = 2
  · rw [if_pos q, sh_bs_l rfl, ← q, sh_bs_r (ff_end n h40), if_pos (show nI tn < 4 from nI_lt (b := 4) (by omega) (by omega))]
    exact ⟨_, _, rfl, by rw [q], Or.inr ⟨tn, h40, rfl⟩⟩
  · obtain ⟨x1, x2⟩ := hx 2 (by omega)
    rw [if_neg q]
    by_cases q2 : 49 ≤ c 2 ∧ c 2 ≤ 54
    · rw [if_pos q2, ff_good n h40 (by omega) (fits_2 x2 x1) (decide_eq_true q2), p_L72 hI h40 hx (A := va_up A 1 (upd (A 1) 1 (nI (c (1 + 1) - 48)))) (fun j hj => by rw [va_up_ne _ _ (by omega)]; exact hA j hj) (show 1 + 1 < 3 by omega) (m + 1) (by omega)]
      obtain ⟨n, rfl⟩ : ∃ x, n = x + 1 := ⟨n - 1, by omega⟩
      by_cases q3 : tn = 3
      · rw [if_pos q3, sh_bs_l rfl, show nI (2 + 1) = nI tn by rw [q3], sh_bs_r (ff_end n h40), if_pos (show nI tn < 4 from nI_lt (b := 4) (by omega) (by omega)), va_up_up]
        exact ⟨_, _, rfl, by rw [q3], Or.inr ⟨tn, h40, rfl⟩⟩
      · obtain ⟨y1, y2⟩ := hx 3 (by omega)
        rw [if_neg q3]
        by_cases q4 : 49 ≤ c 3 ∧ c 3 ≤ 54
        · have w1 : xL 2 = nI (48 + (c 2 - 48)) := by rw [x1, show 48 + (c 2 - 48) = c 2 by omega]
          have w2 : xL 3 = nI (48 + (c 3 - 48)) := by rw [y1, show 48 + (c 3 - 48) = c 3 by omega]
          rw [if_pos q4, ff_good n h40 (by omega) (fits_3 y2 y1) (decide_eq_true q4), fX8_readPicture_L72_s, if_pos (show (3 : Int32) ≤ nI (1 + 1 + 1) by decide), sh_bs_r rfl, va_up_up, va_up_self, va_up_self]
          have d1 : fX8_dotsOf (upd (upd (A 1) 1 (nI (c (1 + 1) - 48))) (1 + 1) (nI (c (1 + 1 + 1) - 48))) = some (nI ((c 2 - 48) * (c 3 - 48))) := p_dots (by rw [pk_un (by omega), pk_us]) pk_us
          rw [sh_b1_s d1]
          have hwh : (c 2 - 48) * (c 3 - 48) ≤ 36 := Nat.mul_le_mul (show c 2 - 48 ≤ 6 by omega) (show c 3 - 48 ≤ 6 by omega)
          obtain ⟨o, f, e1, e2, e3⟩ := p_body_L (S := S) hk (w := c 2 - 48) (h := c 3 - 48) (by omega) (by omega) hI h40 hx w1 w2 ((c 2 - 48) * (c 3 - 48)) n sh_fu 0 (va_up A 1 (upd (upd (A 1) 1 (nI (c (1 + 1) - 48))) (1 + 1) (nI (c (1 + 1 + 1) - 48)))) (by omega) (by omega) (by unfold sh_fu; omega) (by omega) (fun j hj => by rw [va_up_ne _ _ (by omega)]; exact hA j hj) ⟨by rw [va_up_self, pk_un (by omega), pk_un (by omega)]; exact hA0, by rw [va_up_self, pk_un (by omega), pk_us], by rw [va_up_self]; exact pk_us, fun j hj => absurd hj (Nat.not_lt_zero j)⟩
          rw [nI_0, va_up_up] at e2
          refine ⟨o, f, e1, e2, ?_⟩
          rcases e3 with ⟨a, b, p1, p2⟩ | e3
          · exact Or.inl ⟨a, c 2 - 48, c 3 - 48, by omega, by omega, w1, w2, b, p1, p2⟩
          · exact Or.inr e3
        · rw [if_neg q4, sh_bs_l rfl, sh_bs_l (ff_bad n h40 (by omega) (fits_3 y2 y1) (decide_eq_false q4)), va_up_up]
          exact ⟨_, _, rfl, rfl, Or.inr ⟨3, by omega, rfl⟩⟩
    · rw [if_neg q2, sh_bs_l rfl, sh_bs_l (ff_bad n h40 (by omega) (fits_2 x2 x1) (decide_eq_false q2))]
      exact ⟨_, _, rfl, rfl, Or.inr ⟨2, by omega, rfl⟩⟩
theorem p_rp_L2 : ∀ (r n d : Nat) (A : Nat → Nat → Int32), d + r = 39 → r < n → ∃ f, fX8_readPicture_L2 n (nI d) A = some (va_up A 1 f) := by
  intro r
  induction r with
  | zero =>
    intro n d A hd hn
    obtain ⟨n, rfl⟩ : ∃ m, n = m + 1 := ⟨n - 1, by omega⟩
    obtain rfl : d = 39 := by omega
    rw [fX8_readPicture_L2_s, if_pos (show (39 : Int32) ≤ nI 39 from nI_le (a := 39) (b := 39) (by omega) (by omega))]
    exact ⟨A 1, by rw [va_up_id]⟩
  | succ r ih =>
    intro n d A hd hn
    obtain ⟨n, rfl⟩ : ∃ m, n = m + 1 := ⟨n - 1, by omega⟩
    rw [fX8_readPicture_L2_s, if_neg (show ¬ (39 : Int32) ≤ nI d from nI_ge (b := 39) (by omega) (by omega)), sh_b1_s (sh_ast_n (by omega) (by omega)), nI_1]
    obtain ⟨f, e⟩ := ih n (d + 1) (va_up A 1 (upd (A 1) d 0)) (by omega) (by omega)
    rw [va_up_up] at e
    exact ⟨f, e⟩
/-- what a good text says -/
def Txt (xL : Nat → Int32) (tn k w h : Nat) (sh : Nat → Nat) : Prop := tn = 4 + w * h ∧ xL 1 = nI (48 + k) ∧ xL 2 = nI (48 + w) ∧ xL 3 = nI (48 + h) ∧ ∀ j, j < w * h → xL (4 + j) = nI (48 + sh j)
theorem p_read {I2 : Nat → Int32} {S : Int64} {xL : Nat → Int32} {A2 : Nat → Nat → Int32} {tn : Nat} (hI : I2 1 = nI tn) (h40 : tn ≤ 40) (hT : Tx tn xL (A2 0)) : ∃ o f, fX5_firstFault xL (nI tn) = some o ∧ fX8_readPicture I2 S A2 = some (o, va_up A2 1 f) ∧ ((o = -9 ∧ ∃ k w h sh, Txt xL tn k w h sh ∧ Pic f k w h sh) ∨ ∃ x : Nat, x ≤ 40 ∧ o = nI x) := by
  obtain ⟨c, hc⟩ : ∃ c : Nat → Nat, ∀ j, j < tn → xL j = nI (c j) ∧ c j ≤ 255 := by
    have hk : ∀ j, ∃ c : Nat, j < tn → xL j = nI c ∧ c ≤ 255 := fun j => by
      by_cases q : j < tn
      · obtain ⟨-, c, h1, h2⟩ := hT j q
        exact ⟨c, fun _ => ⟨h2, h1⟩⟩
      · exact ⟨0, fun z => absurd z q⟩
    exact ⟨fun j => Classical.choose (hk j), fun j hj => Classical.choose_spec (hk j) hj⟩
  have hA : ∀ j, j < tn → A2 0 j = xL j := fun j hj => (hT j hj).1.symm
  obtain ⟨f0, e0⟩ := p_rp_L2 39 sh_fu 0 A2 (by omega) (by unfold sh_fu; omega)
  rw [nI_0] at e0
  have hA' : ∀ g j, j < tn → va_up A2 1 g 0 j = xL j := fun g j hj => by rw [va_up_ne _ _ (by omega)]; exact hA j hj
  unfold fX5_firstFault fX8_readPicture
  rw [sh_b1_s e0, show (0 : Int32) = nI 0 from rfl]
  have hfu : sh_fu = 1999 + 1 := rfl
  rcases Nat.eq_zero_or_pos tn with q0 | q0
  · rw [sh_b1_s (lt_no hI (by omega) (by omega)), if_neg (show ¬ (-9 : Int32) = 80 by decide)]
    have : fX5_firstFault_L2 sh_fu (nI 0) xL (nI tn) = some (.inr ()) := by rw [hfu, q0]; exact ff_end (tn := 0) 1999 (by omega)
    rw [sh_bs_r this, if_pos (show nI tn < 4 from nI_lt (b := 4) (by omega) (by omega)), q0]
    exact ⟨_, _, rfl, rfl, Or.inr ⟨0, by omega, rfl⟩⟩
  · obtain ⟨x1, x2⟩ := hc 0 q0
    rw [sh_b1_s (lt_at hI h40 q0), hA' _ 0 q0, x1]
    by_cases q1 : c 0 = 80
    · rw [if_pos (show nI (c 0) = 80 by rw [q1]; rfl)]
      have g0 : fX5_firstFault_L2 sh_fu (nI 0) xL (nI tn) = fX5_firstFault_L2 1999 (nI 1) xL (nI tn) := by rw [hfu]; exact ff_good 1999 h40 q0 (fits_0 x2 x1) (decide_eq_true q1)
      rw [g0]
      rw [show fX8_letterAt I2 (va_up A2 1 f0) 1 = fX8_letterAt I2 (va_up A2 1 f0) (nI 1) from rfl]
      by_cases q2 : tn = 1
      · rw [sh_b1_s (lt_no hI (by omega) (by omega)), if_neg (show ¬ (-9 : Int32) = 52 by decide), sh_b1_s (lt_no hI (by omega) (by omega)), if_neg (show ¬ (-9 : Int32) = 56 by decide)]
        have : fX5_firstFault_L2 1999 (nI 1) xL (nI tn) = some (.inr ()) := by rw [q2]; exact ff_end (tn := 1) 1998 (by omega)
        rw [sh_bs_r this, if_pos (show nI tn < 4 from nI_lt (b := 4) (by omega) (by omega)), q2]
        exact ⟨_, _, rfl, rfl, Or.inr ⟨1, by omega, rfl⟩⟩
      · obtain ⟨y1, y2⟩ := hc 1 (by omega)
        rw [sh_b1_s (lt_at hI h40 (by omega)), hA' _ 1 (by omega), y1, sh_b1_s (lt_at hI h40 (by omega)), hA' _ 1 (by omega), y1]
        have hgo : ∀ k, (k = 4 ∨ k = 8) → c 1 = 48 + k → ∃ o f, sh_bs (fX5_firstFault_L2 1999 (nI 1) xL (nI tn)) (fun _ => if nI tn < 4 then some (nI tn) else sh_b1 (fX5_wholeSize xL) fun v9 => if nI tn = v9 then some (-9) else some (nI tn)) = some o ∧ (sh_b1 (sh_ast (va_up A2 1 f0 1) 39 (nI 0) (nI (c 1) - 48)) fun f11 => sh_bs (fX8_readPicture_L72 sh_fu 1 I2 S (va_up (va_up A2 1 f0) 1 f11)) fun t22 => sh_b1 (fX8_dotsOf (t22 1)) fun v23 => sh_bs (fX8_readPicture_L130 sh_fu v23 (nI 0) I2 S t22) fun t35 => if I2 1 = 4 + v23 then some (-9, t35) else some (4 + v23, t35)) = some (o, va_up A2 1 f) ∧ ((o = -9 ∧ ∃ k w h sh, Txt xL tn k w h sh ∧ Pic f k w h sh) ∨ ∃ x : Nat, x ≤ 40 ∧ o = nI x) := fun k hk hck => by
          rw [ff_good 1998 h40 (by omega) (fits_1 y2 y1) (decide_eq_true (by omega)), sh_b1_s (sh_ast_n (by omega) (by omega)), va_up_up, va_up_self]
          obtain ⟨o, f, e1, e2, e3⟩ := p_head (S := S) hk hI h40 hc (A := va_up A2 1 (upd f0 0 (nI (c 1) - 48))) (fun j hj => hA' _ j hj) (by rw [va_up_self, pk_us, hck, show (48 : Int32) = nI 48 from rfl, pk_sub (by omega), Nat.add_sub_cancel_left]) (by omega) 1998 1997 (by omega)
          rw [va_up_up] at e2
          refine ⟨o, f, e1, e2, ?_⟩
          rcases e3 with ⟨a, w, h, hw, hh, w1, w2, ht, P, hl⟩ | e3
          · refine Or.inl ⟨a, k, w, h, fun j => c (4 + j) - 48, ⟨ht, by rw [y1, hck], w1, w2, fun j hj => ?_⟩, P⟩
            have h8 := hl j hj
            rw [(hc (4 + j) (by omega)).1, show 48 + (c (4 + j) - 48) = c (4 + j) by omega]
          · exact Or.inr e3
        by_cases q3 : c 1 = 52
        · rw [if_pos (show nI (c 1) = 52 by rw [q3]; rfl)]
          exact hgo 4 (Or.inl rfl) q3
        · rw [if_neg (show ¬ nI (c 1) = 52 from fun z => q3 ((nI_eq (b := 52) (by omega) (by omega)).mp z))]
          by_cases q4 : c 1 = 56
          · rw [if_pos (show nI (c 1) = 56 by rw [q4]; rfl)]
            exact hgo 8 (Or.inr rfl) q4
          · rw [if_neg (show ¬ nI (c 1) = 56 from fun z => q4 ((nI_eq (b := 56) (by omega) (by omega)).mp z)), sh_bs_l (ff_bad 1998 h40 (by omega) (fits_1 y2 y1) (decide_eq_false (by omega)))]
            exact ⟨_, _, rfl, rfl, Or.inr ⟨1, by omega, rfl⟩⟩
    · have g0 : fX5_firstFault_L2 sh_fu (nI 0) xL (nI tn) = some (.inl (nI 0)) := by rw [hfu]; exact ff_bad 1999 h40 q0 (fits_0 x2 x1) (decide_eq_false q1)
      rw [if_neg (show ¬ nI (c 0) = 80 from fun z => q1 ((nI_eq (b := 80) (by omega) (by omega)).mp z)), sh_bs_l g0]
      exact ⟨_, _, rfl, rfl, Or.inr ⟨0, by omega, rfl⟩⟩
