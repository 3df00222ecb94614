/-! the text of a picture, both sides -/
theorem fg_int {c : Nat} (hc : c ≤ 255) : (nI c - 48).toInt = (c : Int) - 48 := pk_sub_toInt (a := c) (b := 48) (by omega) (by omega)
theorem fg_eq {c m : Nat} (hc : c ≤ 255) (hm : m ≤ 255) : nI c - 48 = nI m ↔ c = m + 48 := by
  rw [← Int32.toInt_inj, fg_int hc, nI_toInt (by omega)]; omega
theorem fg_lt {c m : Nat} (hc : c ≤ 255) (hm : m ≤ 255) : nI c - 48 < nI m ↔ c < m + 48 := by
  rw [Int32.lt_iff_toInt_lt, fg_int hc, nI_toInt (by omega)]; omega
theorem fg_gt {c m : Nat} (hc : c ≤ 255) (hm : m ≤ 255) : nI m < nI c - 48 ↔ m + 48 < c := by
  rw [Int32.lt_iff_toInt_lt, fg_int hc, nI_toInt (by omega)]; omega
theorem fg_in {c a b : Nat} {x y : Int64} (hc : c ≤ 255) (hx : x.toInt = (a : Int)) (hy : y.toInt = (b : Int)) : fX8_in (Int32.toInt64 (nI c - 48)) x y = some (z01 (decide (a + 48 ≤ c ∧ c ≤ b + 48))) := by
  rw [p_inI _ hx hy, fg_int hc]
  congr 2
  apply decide_eq_decide.mpr
  omega
theorem p_fig {xL : Nat → Int32} {c i : Nat} (hi : i < 40) (hx : xL i = nI c) : fX5_figure xL (nI i) = some (nI c - 48) := by
  unfold fX5_figure
  rw [if_neg (nI_pos (by omega)), if_neg (show ¬ (40 : Int32) ≤ nI i from nI_ge (b := 40) hi (by omega)), sh_b1_s (sh_ald_n hi (by omega)), hx]
theorem fits_0 {xL : Nat → Int32} {c : Nat} (hc : c ≤ 255) (hx : xL 0 = nI c) : fX5_fits xL (nI 0) = some (z01 (decide (c = 80))) := by
  unfold fX5_fits
  rw [sh_b1_s (p_fig (by omega) hx), if_pos (show nI 0 = 0 from rfl)]
  by_cases q : c = 80
  · rw [if_pos (show nI c - 48 = 32 from (fg_eq (m := 32) hc (by omega)).mpr q), decide_eq_true q]; rfl
  · rw [if_neg (show ¬ nI c - 48 = 32 from fun z => q ((fg_eq (m := 32) hc (by omega)).mp z)), decide_eq_false q]; rfl
theorem fits_1 {xL : Nat → Int32} {c : Nat} (hc : c ≤ 255) (hx : xL 1 = nI c) : fX5_fits xL (nI 1) = some (z01 (decide (c = 52 ∨ c = 56))) := by
  unfold fX5_fits
  rw [sh_b1_s (p_fig (by omega) hx), if_neg (show ¬ nI 1 = 0 by decide), if_pos (show nI 1 = 1 from rfl)]
  by_cases q : c = 52
  · rw [if_pos (show nI c - 48 = 4 from (fg_eq (m := 4) hc (by omega)).mpr q), decide_eq_true (Or.inl q)]; rfl
  · rw [if_neg (show ¬ nI c - 48 = 4 from fun z => q ((fg_eq (m := 4) hc (by omega)).mp z))]
    by_cases q2 : c = 56
    · rw [if_pos (show nI c - 48 = 8 from (fg_eq (m := 8) hc (by omega)).mpr q2), decide_eq_true (Or.inr q2)]; rfl
    · rw [if_neg (show ¬ nI c - 48 = 8 from fun z => q2 ((fg_eq (m := 8) hc (by omega)).mp z)), decide_eq_false (by omega)]; rfl
theorem fits_s {c : Nat} (hc : c ≤ 255) : (if nI c - 48 < 1 then some (0 : Int32) else if 6 < nI c - 48 then some 0 else some 1) = some (z01 (decide (49 ≤ c ∧ c ≤ 54))) := by
  by_cases q : c < 49
  · rw [if_pos (show nI c - 48 < 1 from (fg_lt (m := 1) hc (by omega)).mpr (by omega)), decide_eq_false (by omega)]; rfl
  · rw [if_neg (show ¬ nI c - 48 < 1 from fun z => by have := (fg_lt (m := 1) hc (by omega)).mp z; omega)]
    by_cases q2 : 54 < c
    · rw [if_pos (show 6 < nI c - 48 from (fg_gt (m := 6) hc (by omega)).mpr (by omega)), decide_eq_false (by omega)]; rfl
    · rw [if_neg (show ¬ 6 < nI c - 48 from fun z => by have := (fg_gt (m := 6) hc (by omega)).mp z; omega), decide_eq_true (by omega)]; rfl
theorem fits_2 {xL : Nat → Int32} {c : Nat} (hc : c ≤ 255) (hx : xL 2 = nI c) : fX5_fits xL (nI 2) = some (z01 (decide (49 ≤ c ∧ c ≤ 54))) := by
  unfold fX5_fits
  rw [sh_b1_s (p_fig (by omega) hx), if_neg (show ¬ nI 2 = 0 by decide), if_neg (show ¬ nI 2 = 1 by decide), if_pos (show nI 2 = 2 from rfl), fits_s hc]
theorem fits_3 {xL : Nat → Int32} {c : Nat} (hc : c ≤ 255) (hx : xL 3 = nI c) : fX5_fits xL (nI 3) = some (z01 (decide (49 ≤ c ∧ c ≤ 54))) := by
  unfold fX5_fits
  rw [sh_b1_s (p_fig (by omega) hx), if_neg (show ¬ nI 3 = 0 by decide), if_neg (show ¬ nI 3 = 1 by decide), if_neg (show ¬ nI 3 = 2 by decide), if_pos (show nI 3 = 3 from rfl), fits_s hc]
theorem p_whole {xL : Nat → Int32} {w h : Nat} (h2 : xL 2 = nI (48 + w)) (h3 : xL 3 = nI (48 + h)) : fX5_wholeSize xL = some (nI (4 + w * h)) := by
  unfold fX5_wholeSize
  rw [show fX5_figure xL 2 = some (nI (48 + w) - 48) from p_fig (i := 2) (by omega) h2, sh_b1_s rfl, show fX5_figure xL 3 = some (nI (48 + h) - 48) from p_fig (i := 3) (by omega) h3, sh_b1_s rfl, show nI (48 + w) - 48 = nI w from by rw [show (48 : Int32) = nI 48 from rfl, pk_sub (by omega), Nat.add_sub_cancel_left], show nI (48 + h) - 48 = nI h from by rw [show (48 : Int32) = nI 48 from rfl, pk_sub (by omega), Nat.add_sub_cancel_left], pk_mul, show (4 : Int32) = nI 4 from rfl, nI_add]
theorem fits_n {xL : Nat → Int32} {c i w h : Nat} (h4 : 4 ≤ i) (hi : i < 40) (hw : w ≤ 6) (hh : h ≤ 6) (hc : c ≤ 255) (hx : xL i = nI c) (h2 : xL 2 = nI (48 + w)) (h3 : xL 3 = nI (48 + h)) : fX5_fits xL (nI i) = some (z01 (decide (i < 4 + w * h ∧ 48 ≤ c ∧ c ≤ 57))) := by
  have h36 : w * h ≤ 36 := Nat.mul_le_mul hw hh
  unfold fX5_fits fX7_isShade
  rw [sh_b1_s (p_fig hi hx), if_neg (show ¬ nI i = 0 from nI_ne0 (by omega) (by omega)), if_neg (show ¬ nI i = 1 from fun z => by have := (nI_eq (b := 1) (by omega) (by omega)).mp z; omega), if_neg (show ¬ nI i = 2 from fun z => by have := (nI_eq (b := 2) (by omega) (by omega)).mp z; omega), if_neg (show ¬ nI i = 3 from fun z => by have := (nI_eq (b := 3) (by omega) (by omega)).mp z; omega), sh_b1_s (p_whole h2 h3)]
  by_cases q : 4 + w * h ≤ i
  · rw [if_pos (nI_le q (by omega)), decide_eq_false (by omega)]; rfl
  · rw [if_neg (nI_ge (by omega) (by omega))]
    by_cases q1 : c < 48
    · rw [if_pos (show nI c - 48 < 0 from (fg_lt (m := 0) hc (by omega)).mpr (by omega)), sh_b1_s rfl, if_pos rfl, decide_eq_false (by omega)]; rfl
    · rw [if_neg (show ¬ nI c - 48 < 0 from fun z => by have := (fg_lt (m := 0) hc (by omega)).mp z; omega)]
      by_cases q2 : 57 < c
      · rw [if_pos (show 9 < nI c - 48 from (fg_gt (m := 9) hc (by omega)).mpr (by omega)), sh_b1_s rfl, if_pos rfl, decide_eq_false (by omega)]; rfl
      · rw [if_neg (show ¬ 9 < nI c - 48 from fun z => by have := (fg_gt (m := 9) hc (by omega)).mp z; omega), sh_b1_s rfl, if_neg z10, decide_eq_true (by omega)]; rfl
theorem ff_end {xL : Nat → Int32} {tn : Nat} (n : Nat) (h40 : tn ≤ 40) : fX5_firstFault_L2 (n + 1) (nI tn) xL (nI tn) = some (.inr ()) := by
  rw [fX5_firstFault_L2_s, if_pos (nI_le (Nat.le_refl _) (by omega))]
theorem ff_bad {xL : Nat → Int32} {tn i : Nat} (n : Nat) (h40 : tn ≤ 40) (hi : i < tn) {b : Bool} (hf : fX5_fits xL (nI i) = some (z01 b)) (hb : b = false) : fX5_firstFault_L2 (n + 1) (nI i) xL (nI tn) = some (.inl (nI i)) := by
  rw [fX5_firstFault_L2_s, if_neg (nI_ge hi (by omega)), sh_b1_s hf, hb, if_pos z01_f]
theorem ff_good {xL : Nat → Int32} {tn i : Nat} (n : Nat) (h40 : tn ≤ 40) (hi : i < tn) {b : Bool} (hf : fX5_fits xL (nI i) = some (z01 b)) (hb : b = true) : fX5_firstFault_L2 (n + 1) (nI i) xL (nI tn) = fX5_firstFault_L2 n (nI (i + 1)) xL (nI tn) := by
  rw [fX5_firstFault_L2_s, if_neg (nI_ge hi (by omega)), sh_b1_s hf, hb, if_neg z01_t, nI_1]
theorem lt_at {I : Nat → Int32} {A : Nat → Nat → Int32} {tn i : Nat} (hI : I 1 = nI tn) (h40 : tn ≤ 40) (hi : i < tn) : fX8_letterAt I A (nI i) = some (A 0 i) := by
  unfold fX8_letterAt
  rw [hI, if_neg (nI_ge hi (by omega)), sh_b1_s (sh_ald_n (by omega) (by omega))]
theorem lt_no {I : Nat → Int32} {A : Nat → Nat → Int32} {tn i : Nat} (hI : I 1 = nI tn) (h40 : i < 2 ^ 31) (hi : tn ≤ i) : fX8_letterAt I A (nI i) = some (-9) := by
  unfold fX8_letterAt
  rw [hI, if_pos (nI_le hi h40)]
theorem z_57a : fX8_in (Int32.toInt64 (-9 - 48)) 1 6 = some 0 := by decide
theorem z_57b : fX8_in (Int32.toInt64 (-9 - 48)) 0 9 = some 0 := by decide
/-- the shades: both sides find the same fault -/
theorem p_body_L {I : Nat → Int32} {S : Int64} {xL : Nat → Int32} {c : Nat → Nat} {tn k w h : Nat} (hk : k = 4 ∨ k = 8) (hw : 1 ≤ w ∧ w ≤ 6) (hh : 1 ≤ h ∧ h ≤ 6) (hI : I 1 = nI tn) (h40 : tn ≤ 40) (hx : ∀ j, j < tn → xL j = nI (c j) ∧ c j ≤ 255) (h2 : xL 2 = nI (48 + w)) (h3 : xL 3 = nI (48 + h)) : ∀ (r n m i : Nat) (A : Nat → Nat → Int32), i + r = w * h → r < n → r < m → 4 + i ≤ tn → (∀ j, j < tn → A 0 j = xL j) → (A 1 0 = nI k ∧ A 1 1 = nI w ∧ A 1 2 = nI h ∧ ∀ j, j < i → A 1 (3 + j) = nI (c (4 + j) - 48) ∧ c (4 + j) - 48 ≤ 9 ∧ 48 ≤ c (4 + j)) → ∃ o f, sh_bs (fX5_firstFault_L2 n (nI (4 + i)) xL (nI tn)) (fun _ => if nI tn < 4 then some (nI tn) else sh_b1 (fX5_wholeSize xL) fun v9 => if nI tn = v9 then some (-9) else some (nI tn)) = some o ∧ sh_bs (fX8_readPicture_L130 m (nI (w * h)) (nI i) I S A) (fun t35 => if I 1 = 4 + nI (w * h) then some (-9, t35) else some (4 + nI (w * h), t35)) = some (o, va_up A 1 f) ∧ ((o = -9 ∧ tn = 4 + w * h ∧ Pic f k w h (fun j => c (4 + j) - 48) ∧ ∀ j, j < w * h → 48 ≤ c (4 + j)) ∨ ∃ x : Nat, x ≤ 40 ∧ o = nI x) := by
  have h36 : w * h ≤ 36 := Nat.mul_le_mul hw.2 hh.2
  intro r
  induction r with
  | zero =>
    intro n m i A hi hn hm hit hA hP
    obtain ⟨n, rfl⟩ : ∃ x, n = x + 1 := ⟨n - 1, by omega⟩
    obtain ⟨m, rfl⟩ : ∃ x, m = x + 1 := ⟨m - 1, by omega⟩
    obtain rfl : i = w * h := by omega
    rw [fX8_readPicture_L130_s, if_pos (nI_le (Nat.le_refl _) (by omega)), sh_bs_r rfl, hI, show (4 : Int32) + nI (w * h) = nI (4 + w * h) from nI_add 4 _]
    by_cases q : tn = 4 + w * h
    · rw [if_pos (show nI tn = nI (4 + w * h) by rw [q]), ← q, sh_bs_r (ff_end n h40), if_neg (show ¬ nI tn < 4 from nI_nlt (b := 4) (by omega) (by omega)), sh_b1_s (p_whole h2 h3), if_pos (show nI tn = nI (4 + w * h) by rw [q])]
      refine ⟨_, A 1, rfl, by rw [va_up_id], Or.inl ⟨rfl, rfl, ⟨hP.1, hP.2.1, hP.2.2.1, ⟨hk, hw, hh⟩, fun d hd => ?_⟩, fun j hj => ?_⟩⟩
      · obtain ⟨a, b, -⟩ := hP.2.2.2 d (by omega)
        exact ⟨a, b⟩
      · exact (hP.2.2.2 j (by omega)).2.2
    · obtain ⟨x1, x2⟩ := hx (4 + w * h) (by omega)
      rw [if_neg (fun z => q ((nI_eq (by omega) (by omega)).mp z)), sh_bs_l (ff_bad n h40 (by omega) (fits_n (by omega) (by omega) hw.2 hh.2 x2 x1 h2 h3) (decide_eq_false (by omega)))]
      exact ⟨_, A 1, rfl, by rw [va_up_id], Or.inr ⟨4 + w * h, by omega, rfl⟩⟩
  | succ r ih =>
    intro n m i A hi hn hm hit hA hP
    obtain ⟨n, rfl⟩ : ∃ x, n = x + 1 := ⟨n - 1, by omega⟩
    obtain ⟨m, rfl⟩ : ∃ x, m = x + 1 := ⟨m - 1, by omega⟩
    rw [fX8_readPicture_L130_s, if_neg (nI_ge (by omega) (by omega)), show (4 : Int32) + nI i = nI (4 + i) from nI_add 4 _, z_3 i]
    by_cases q : tn = 4 + i
    · rw [← q, sh_bs_r (ff_end n h40), if_neg (show ¬ nI tn < 4 from nI_nlt (b := 4) (by omega) (by omega)), sh_b1_s (p_whole h2 h3), if_neg (fun z => by have := (nI_eq (by omega) (by omega)).mp z; omega), sh_b1_s (lt_no hI (by omega) (Nat.le_refl _)), sh_b1_s (sh_ast_n (by omega) (by omega)), sh_b1_s (sh_ald_n (by omega) (by omega)), pk_us, sh_b1_s z_57b, if_pos rfl, sh_bs_l rfl]
      exact ⟨_, _, rfl, rfl, Or.inr ⟨tn, h40, rfl⟩⟩
    · obtain ⟨x1, x2⟩ := hx (4 + i) (by omega)
      rw [sh_b1_s (lt_at hI h40 (by omega)), hA _ (by omega), x1, sh_b1_s (sh_ast_n (by omega) (by omega)), sh_b1_s (sh_ald_n (by omega) (by omega)), pk_us, sh_b1_s (fg_in (a := 0) (b := 9) x2 rfl rfl)]
      have hf := fits_n (show 4 ≤ 4 + i by omega) (show 4 + i < 40 by omega) hw.2 hh.2 x2 x1 h2 h3
      by_cases q2 : 48 ≤ c (4 + i) ∧ c (4 + i) ≤ 57
      · rw [decide_eq_true (show 0 + 48 ≤ c (4 + i) ∧ c (4 + i) ≤ 9 + 48 by omega), if_neg z01_t, nI_1, ff_good n h40 (by omega) hf (decide_eq_true ⟨by omega, q2⟩), show 4 + i + 1 = 4 + (i + 1) by omega]
        obtain ⟨o, f, e1, e2, e3⟩ := ih n m (i + 1) (va_up A 1 (upd (A 1) (3 + i) (nI (c (4 + i)) - 48))) (by omega) (by omega) (by omega) (by omega) (fun j hj => by rw [va_up_ne _ _ (by omega)]; exact hA j hj) (by
          rw [va_up_self, pk_un (by omega), pk_un (by omega), pk_un (by omega)]
          refine ⟨hP.1, hP.2.1, hP.2.2.1, fun j hj => ?_⟩
          by_cases z : j = i
          · subst z
            rw [pk_us, show nI (c (4 + j)) - 48 = nI (c (4 + j) - 48) from pk_sub (b := 48) (by omega)]
            exact ⟨rfl, by omega, by omega⟩
          · rw [pk_un (by omega)]
            exact hP.2.2.2 j (by omega))
        rw [va_up_up] at e2
        exact ⟨o, f, e1, e2, e3⟩
      · rw [decide_eq_false (show ¬ (0 + 48 ≤ c (4 + i) ∧ c (4 + i) ≤ 9 + 48) by omega), if_pos z01_f, sh_bs_l rfl, sh_bs_l (ff_bad n h40 (by omega) hf (decide_eq_false (by omega)))]
        exact ⟨_, _, rfl, rfl, Or.inr ⟨4 + i, by omega, rfl⟩⟩
