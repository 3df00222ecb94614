/-! what changes a picture, both sides -/
theorem Pic.congs {p : Nat → Int32} {k w h : Nat} {sh sh2 : Nat → Nat} (H : Pic p k w h sh) (he : ∀ i, i < w * h → sh i = sh2 i) : Pic p k w h sh2 := ⟨H.1, H.2.1, H.2.2.1, H.2.2.2.1, fun d hd => by rw [← he d hd]; exact H.2.2.2.2 d hd⟩
theorem Pic.congp {p q : Nat → Int32} {k w h : Nat} {sh : Nat → Nat} (H : Pic p k w h sh) (he : ∀ i, i < 39 → p i = q i) : Pic q k w h sh := by
  have h36 := H.n36
  exact ⟨by rw [← he 0 (by omega)]; exact H.1, by rw [← he 1 (by omega)]; exact H.2.1, by rw [← he 2 (by omega)]; exact H.2.2.1, H.2.2.2.1, fun d hd => by rw [← he (3 + d) (by omega)]; exact H.2.2.2.2 d hd⟩
theorem Pic.paint {p : Nat → Int32} {k w h : Nat} {sh : Nat → Nat} (H : Pic p k w h sh) {d v : Nat} (hv : v ≤ 9) : Pic (upd p (3 + d) (nI v)) k w h (fun i => if i = d then v else sh i) := by
  refine ⟨by rw [pk_un (by omega)]; exact H.1, by rw [pk_un (by omega)]; exact H.2.1, by rw [pk_un (by omega)]; exact H.2.2.1, H.2.2.2.1, fun i hi => ?_⟩
  by_cases q : i = d
  · subst q
    dsimp only
    rw [pk_us, if_pos rfl]
    exact ⟨rfl, hv⟩
  · dsimp only
    rw [pk_un (by omega), if_neg q]
    exact H.2.2.2.2 i hi
theorem z_3 (d : Nat) : (3 : Int32) + nI d = nI (3 + d) := nI_add 3 d
theorem Pic.stp {p : Nat → Int32} {k w h : Nat} {sh : Nat → Nat} (H : Pic p k w h sh) {d : Nat} (hd : d < w * h) (x : Int32) : sh_ast p 39 (3 + nI d) x = some (upd p (3 + d) x) := by
  have h36 := H.n36
  rw [z_3, sh_ast_n (by omega) (by omega)]
theorem Lev.congs {sL : Nat → Int64} {n : Nat} {sh sh2 : Nat → Nat} (H : Lev sL n sh) (he : ∀ i, i < n → sh i = sh2 i) : Lev sL n sh2 := fun t ht => by
  rw [H t ht]
  exact zs_cong (fun i _ => by
    unfold up
    by_cases q : i < n
    · rw [he i q]
    · rw [decide_eq_false q, Bool.false_and, Bool.false_and])
/-! paint -/
theorem p_set_L {n d v : Nat} {sh : Nat → Nat} (hn : n ≤ 36) (hd : d < n) (hv : v ≤ 9) : ∀ (r m t : Nat) (sL : Nat → Int64), t + r = 10 → r < m → 1 ≤ t → (∀ u, u ≤ 9 → sL u = if u < t then zs (up n (fun i => if i = d then v else sh i) u) else zs (up n sh u)) → ∃ sL2, fX2_set_L7 m (nI v) (zs (fun i => decide (i = d))) (nI t) sL = some sL2 ∧ Lev sL2 n (fun i => if i = d then v else sh i) := by
  intro r
  induction r with
  | zero =>
    intro m t sL ht hm _ hL
    obtain ⟨m, rfl⟩ : ∃ x, m = x + 1 := ⟨m - 1, by omega⟩
    obtain rfl : t = 10 := by omega
    rw [fX2_set_L7_s, if_pos (show (10 : Int32) ≤ nI 10 from nI_le (a := 10) (b := 10) (by omega) (by omega))]
    exact ⟨sL, rfl, fun u hu => by rw [hL u hu, if_pos (by omega)]⟩
  | succ r ih =>
    intro m t sL ht hm h1 hL
    obtain ⟨m, rfl⟩ : ∃ x, m = x + 1 := ⟨m - 1, by omega⟩
    have hLt := hL t (by omega)
    rw [if_neg (by omega)] at hLt
    have hstep : ∀ y, y = zs (up n (fun i => if i = d then v else sh i) t) → ∃ sL2, fX2_set_L7 m (nI v) (zs (fun i => decide (i = d))) (nI (t + 1)) (vp_updL sL t y) = some sL2 ∧ Lev sL2 n (fun i => if i = d then v else sh i) := fun y hy => by
      refine ih m (t + 1) _ (by omega) (by omega) (by omega) (fun u hu => ?_)
      by_cases q : u = t
      · subst q
        rw [pk_uLs, if_pos (by omega), hy]
      · rw [pk_uLn q, hL u hu]
        by_cases q2 : u < t
        · rw [if_pos q2, if_pos (by omega)]
        · rw [if_neg q2, if_neg (by omega)]
    rw [fX2_set_L7_s, if_neg (show ¬ (10 : Int32) ≤ nI t from nI_ge (b := 10) (by omega) (by omega)), sh_b1_s (sh_ald_n (by omega) (by omega)), hLt, sh_b1_s (sh_ald_n (by omega) (by omega)), hLt, sh_b1_s (sh_astL_n (by omega) (by omega)), sh_b1_s (sh_astL_n (by omega) (by omega)), zs_not, zs_or, nI_1]
    by_cases q : v < t
    · rw [if_pos (nI_lt q (by omega))]
      refine hstep _ (zs_cong (fun i _ => ?_))
      apply Bool.eq_iff_iff.mpr
      unfold up
      by_cases qi : i = d
      · simp [qi]; omega
      · simp [qi]
    · rw [if_neg (nI_nlt (by omega) (by omega))]
      refine hstep _ (zs_cong (fun i _ => ?_))
      apply Bool.eq_iff_iff.mpr
      unfold up
      by_cases qi : i = d
      · simp [qi]; omega
      · simp [qi]
theorem p_set7 {n d v : Nat} {sh : Nat → Nat} {sL : Nat → Int64} (hn : n ≤ 36) (hd : d < n) (hv : v ≤ 9) (hL : Lev sL n sh) : ∃ sL2, fX2_set sL (nI d) (nI v) = some sL2 ∧ Lev sL2 n (fun i => if i = d then v else sh i) := by
  unfold fX2_set
  obtain ⟨sL2, e, L⟩ := p_set_L (sh := sh) hn hd hv 9 sh_fu 1 sL (by omega) (by unfold sh_fu; omega) (by omega) (fun u hu => by
    rw [hL u hu]
    by_cases q : u < 1
    · rw [if_pos q, show u = 0 by omega]
      exact zs_cong (fun i _ => by unfold up; simp)
    · rw [if_neg q])
  rw [zs_bit (by omega), show (1 : Int32) = nI 1 from rfl, sh_b1_s e]
  exact ⟨sL2, rfl, L⟩
/-! negative -/
theorem p_turn_L {n : Nat} {sh : Nat → Nat} {ga : Int64} (hn : n ≤ 36) (hga : ga = zs (fun i => decide (i < n))) (h9 : ∀ d, d < n → sh d ≤ 9) : ∀ (r m t : Nat) (sL : Nat → Int64), t + r = 6 → r < m → 1 ≤ t → (∀ u, u ≤ 9 → sL u = if u < t ∨ 10 < u + t then zs (up n (fun i => 9 - sh i) u) else zs (up n sh u)) → ∃ sL2, fX2_turn_L2 m (nI t) ga sL = some sL2 ∧ Lev sL2 n (fun i => 9 - sh i) := by
  intro r
  induction r with
  | zero =>
    intro m t sL ht hm _ hL
    obtain ⟨m, rfl⟩ : ∃ x, m = x + 1 := ⟨m - 1, by omega⟩
    obtain rfl : t = 6 := by omega
    rw [fX2_turn_L2_s, if_pos (show (5 : Int32) < nI 6 from by decide)]
    exact ⟨sL, rfl, fun u hu => by rw [hL u hu, if_pos (by omega)]⟩
  | succ r ih =>
    intro m t sL ht hm h1 hL
    obtain ⟨m, rfl⟩ : ∃ x, m = x + 1 := ⟨m - 1, by omega⟩
    have hneg : ∀ u, 1 ≤ u → u ≤ 9 → zs (fun i => (fun i => decide (i < n)) i && !up n sh (10 - u) i) = zs (up n (fun i => 9 - sh i) u) := fun u hu1 hu2 => zs_cong (fun i _ => by
      apply Bool.eq_iff_iff.mpr
      unfold up
      by_cases q : i < n
      · have := h9 i q
        simp [q]; omega
      · simp [q])
    have at7 : ∀ u, 1 ≤ u → u ≤ 9 → ∀ sL : Nat → Int64, fX2_atLeast sL (nI u) = some (sL u) := fun u hu1 hu2 sL => by
      unfold fX2_atLeast
      rw [if_neg (nI_pos (by omega)), if_neg (show ¬ (10 : Int32) ≤ nI u from nI_ge (b := 10) (by omega) (by omega)), sh_b1_s (sh_ald_n (by omega) (by omega))]
    have put7 : ∀ u, u ≤ 9 → ∀ (sL : Nat → Int64) (y : Int64), fX2_put sL (nI u) y = some (vp_updL sL u y) := fun u hu sL y => by
      unfold fX2_put
      rw [if_neg (nI_pos (by omega)), if_neg (show ¬ (10 : Int32) ≤ nI u from nI_ge (b := 10) (by omega) (by omega)), sh_b1_s (sh_astL_n (by omega) (by omega))]
    have e1 := hL t (by omega)
    have e2 := hL (10 - t) (by omega)
    rw [if_neg (by omega)] at e1 e2
    unfold fX1_all at *
    rw [fX2_turn_L2_s, if_neg (show ¬ (5 : Int32) < nI t from nI_nlt (b := t) (a := 5) (by omega) (by omega))]
    unfold fX1_all
    rw [show (10 : Int32) - nI t = nI (10 - t) from pk_sub (a := 10) (by omega), sh_b1_s rfl, sh_b1_s (at7 t h1 (by omega) sL), sh_b1_s rfl, sh_b1_s (at7 (10 - t) (by omega) (by omega) sL), e1, e2, hga, zs_not, zs_not, hneg t h1 (by omega), sh_b1_s (put7 t (by omega) _ _), sh_b1_s (put7 (10 - t) (by omega) _ _), nI_1]
    rw [show zs (fun i => (fun i => decide (i < n)) i && !up n sh t i) = zs (up n (fun i => 9 - sh i) (10 - t)) from by
      have := hneg (10 - t) (by omega) (by omega)
      rw [show 10 - (10 - t) = t by omega] at this
      exact this]
    rw [← hga]
    refine ih m (t + 1) _ (by omega) (by omega) (by omega) (fun u hu => ?_)
    by_cases q : u = 10 - t
    · subst q
      rw [pk_uLs, if_pos (by omega)]
    · rw [pk_uLn q]
      by_cases q2 : u = t
      · subst q2
        rw [pk_uLs, if_pos (by omega)]
      · rw [pk_uLn q2, hL u hu]
        by_cases q3 : u < t ∨ 10 < u + t
        · rw [if_pos q3, if_pos (by omega)]
        · rw [if_neg q3, if_neg (by omega)]
theorem p_turn7 {n : Nat} {sh : Nat → Nat} {ga : Int64} {sL : Nat → Int64} (hn : n ≤ 36) (hga : ga = zs (fun i => decide (i < n))) (h9 : ∀ d, d < n → sh d ≤ 9) (hL : Lev sL n sh) : ∃ sL2, fX2_turn ga sL = some sL2 ∧ Lev sL2 n (fun i => 9 - sh i) := by
  unfold fX2_turn
  obtain ⟨sL2, e, L⟩ := p_turn_L hn hga h9 5 sh_fu 1 sL (by omega) (by unfold sh_fu; omega) (by omega) (fun u hu => by
    rw [hL u hu]
    by_cases q : u < 1 ∨ 10 < u + 1
    · rw [if_pos q, show u = 0 by omega]
      exact zs_cong (fun i _ => by unfold up; simp)
    · rw [if_neg q])
  rw [show (1 : Int32) = nI 1 from rfl, sh_b1_s e]
  exact ⟨sL2, rfl, L⟩
theorem p_neg8_L {k w h : Nat} {sh : Nat → Nat} (h9 : ∀ d, d < w * h → sh d ≤ 9) : ∀ (r n d : Nat) (p : Nat → Int32), d + r = w * h → r < n → Pic p k w h (fun i => if i < d then 9 - sh i else sh i) → ∃ p2, fX8_goNegative_L2 n (nI d) p = some p2 ∧ Pic p2 k w h (fun i => 9 - sh i) := by
  intro r
  induction r with
  | zero =>
    intro n d p hd hn H
    have h36 := H.n36
    obtain ⟨n, rfl⟩ : ∃ m, n = m + 1 := ⟨n - 1, by omega⟩
    obtain rfl : d = w * h := by omega
    rw [fX8_goNegative_L2_s, sh_b1_s H.dots, if_pos (nI_le (Nat.le_refl _) (by omega))]
    exact ⟨p, rfl, H.congs (fun i hi => if_pos hi)⟩
  | succ r ih =>
    intro n d p hd hn H
    have h36 := H.n36
    obtain ⟨n, rfl⟩ : ∃ m, n = m + 1 := ⟨n - 1, by omega⟩
    have hdn : d < w * h := by omega
    have hd9 := h9 d hdn
    have hs := H.shade hdn
    rw [if_neg (Nat.lt_irrefl d)] at hs
    rw [fX8_goNegative_L2_s, sh_b1_s H.dots, if_neg (nI_ge (by omega) (by omega)), sh_b1_s hs, show (9 : Int32) - nI (sh d) = nI (9 - sh d) from pk_sub (a := 9) hd9, sh_b1_s (H.stp hdn _), nI_1]
    refine ih n (d + 1) _ (by omega) (by omega) ((H.paint (d := d) (v := 9 - sh d) (by omega)).congs (fun i hi => ?_))
    by_cases q : i = d
    · rw [if_pos q, if_pos (by omega), q]
    · rw [if_neg q]
      by_cases q2 : i < d
      · rw [if_pos q2, if_pos (by omega)]
      · rw [if_neg q2, if_neg (by omega)]
theorem p_neg8 {p : Nat → Int32} {k w h : Nat} {sh : Nat → Nat} (H : Pic p k w h sh) : ∃ p2, fX8_goNegative p = some p2 ∧ Pic p2 k w h (fun i => 9 - sh i) := by
  unfold fX8_goNegative
  have h36 := H.n36
  obtain ⟨p2, e, H2⟩ := p_neg8_L (k := k) (fun d hd => H.sh9 hd) (w * h) sh_fu 0 p (by omega) (by unfold sh_fu; omega) (H.congs (fun i _ => (if_neg (Nat.not_lt_zero i)).symm))
  rw [nI_0] at e
  rw [sh_b1_s e]
  exact ⟨p2, rfl, H2⟩
/-! darken -/
theorem p_darken_L {n : Nat} {ga : Int64} (hga : ga = zs (fun i => decide (i < n))) : ∀ (r m t : Nat) (sL : Nat → Int64), t + r = 10 → r < m → (∀ u, u < t → sL u = zs (up n (fun _ => 0) u)) → ∃ sL2, fX2_darken_L2 m (nI t) ga sL = some sL2 ∧ Lev sL2 n (fun _ => 0) := by
  intro r
  induction r with
  | zero =>
    intro m t sL ht hm hL
    obtain ⟨m, rfl⟩ : ∃ x, m = x + 1 := ⟨m - 1, by omega⟩
    obtain rfl : t = 10 := by omega
    rw [fX2_darken_L2_s, if_pos (show (10 : Int32) ≤ nI 10 from nI_le (a := 10) (b := 10) (by omega) (by omega))]
    exact ⟨sL, rfl, fun u hu => hL u (by omega)⟩
  | succ r ih =>
    intro m t sL ht hm hL
    obtain ⟨m, rfl⟩ : ∃ x, m = x + 1 := ⟨m - 1, by omega⟩
    have hstep : ∀ y, y = zs (up n (fun _ => 0) t) → ∃ sL2, fX2_darken_L2 m (nI (t + 1)) ga (vp_updL sL t y) = some sL2 ∧ Lev sL2 n (fun _ => 0) := fun y hy => by
      refine ih m (t + 1) _ (by omega) (by omega) (fun u hu => ?_)
      by_cases q : u = t
      · subst q; rw [pk_uLs, hy]
      · rw [pk_uLn q, hL u (by omega)]
    unfold fX1_all at *
    rw [fX2_darken_L2_s, if_neg (show ¬ (10 : Int32) ≤ nI t from nI_ge (b := 10) (by omega) (by omega))]
    unfold fX1_all
    rw [sh_b1_s rfl, sh_b1_s (sh_astL_n (by omega) (by omega)), sh_b1_s (sh_astL_n (by omega) (by omega)), nI_1]
    by_cases q : t = 0
    · rw [if_pos (by rw [q]; rfl)]
      refine hstep _ ?_
      rw [hga, q]
      exact zs_cong (fun i _ => by unfold up; simp)
    · rw [if_neg (nI_ne0 (by omega) (by omega))]
      refine hstep _ ?_
      rw [← zs_F]
      exact zs_cong (fun i _ => by unfold up; simp; omega)
theorem p_darken7 {n : Nat} {ga : Int64} (hga : ga = zs (fun i => decide (i < n))) (sL : Nat → Int64) : ∃ sL2, fX2_darken ga sL = some sL2 ∧ Lev sL2 n (fun _ => 0) := by
  unfold fX2_darken
  obtain ⟨sL2, e, L⟩ := p_darken_L hga 10 sh_fu 0 sL (by omega) (by unfold sh_fu; omega) (fun u hu => absurd hu (Nat.not_lt_zero u))
  rw [nI_0] at e
  rw [sh_b1_s e]
  exact ⟨sL2, rfl, L⟩
/-! the sieve of the reference -/
theorem p_goSift_p_L6 {k w h : Nat} {sh : Nat → Nat} {A0 : Nat → Nat → Int32} (H : Pic (A0 2) k w h sh) (kd : Bool) {m m0 : Nat} (hm : m ≤ 36) (h0 : IsM0 (w * h) sh m0) : ∀ (r n d : Nat) (f : Nat → Int32), d + r = w * h → r < n → (∀ i, i < d → f i = nI (zsf k w h sh kd m m0 i)) → ∃ f2, fX8_goSift_p_L6 n (z01 kd) (nI m) (nI (fb_ct (fun i => !decide (zsf k w h sh kd m m0 i = sh i)) d)) (nI d) (va_up A0 4 f) = some (nI (fb_ct (fun i => !decide (zsf k w h sh kd m m0 i = sh i)) (w * h)), va_up A0 4 f2) ∧ ∀ i, i < w * h → f2 i = nI (zsf k w h sh kd m m0 i) := by
  have h36 := H.n36
  have hA : ∀ f : Nat → Int32, va_up A0 4 f 2 = A0 2 := fun f => va_up_ne A0 f (by omega)
  have hA4 : ∀ f : Nat → Int32, va_up A0 4 f 4 = f := fun f => va_up_self A0 4 f
  have hAA : ∀ f g : Nat → Int32, va_up (va_up A0 4 f) 4 g = va_up A0 4 g := fun f g => funext fun j => by unfold va_up; by_cases q : j = 4 <;> simp [q]
  intro r
  induction r with
  | zero =>
    intro n d f hd hn hf
    obtain ⟨n, rfl⟩ : ∃ m, n = m + 1 := ⟨n - 1, by omega⟩
    obtain rfl : d = w * h := by omega
    rw [fX8_goSift_p_L6_s, hA, sh_b1_s H.dots, if_pos (nI_le (Nat.le_refl _) (by omega))]
    exact ⟨f, rfl, hf⟩
  | succ r ih =>
    intro n d f hd hn hf
    obtain ⟨n, rfl⟩ : ∃ m, n = m + 1 := ⟨n - 1, by omega⟩
    have hdn : d < w * h := by omega
    have hs := ih n (d + 1) (upd f d (nI (zsf k w h sh kd m m0 d))) (by omega) (by omega) (fun i hi => by
      by_cases q : i = d
      · rw [q, pk_us]
      · rw [pk_un q]; exact hf i (by omega))
    rw [fb_ct_succ] at hs
    have hl := zsf_le (k := k) (kd := kd) (m := m) h36 h0 hdn
    have hd9 := H.sh9 hdn
    rw [fX8_goSift_p_L6_s, hA, hA4, sh_b1_s H.dots, if_neg (nI_ge (by omega) (by omega)), sh_b1_s (p_sifted H kd hm h0 hdn), sh_b1_s (sh_ast_n (by omega) (by omega)), sh_b1_s (sh_ald_n (by omega) (by omega)), sh_b1_s (H.shade hdn), pk_us, hAA, nI_1]
    by_cases q : zsf k w h sh kd m m0 d = sh d
    · rw [if_pos (by rw [q])]
      rw [decide_eq_true q] at hs
      rw [show ∀ x : Int32, x + 0 = x from fun x => by simp]
      exact hs
    · rw [if_neg (fun z => q ((nI_eq (by omega) (by omega)).mp z)), nI_1]
      rw [decide_eq_false q] at hs
      exact hs
theorem p_goSift_p_L65 {k w h : Nat} {sh sf : Nat → Nat} (x : Int32) (h9 : ∀ d, d < w * h → sf d ≤ 9) : ∀ (r n d : Nat) (A : Nat → Nat → Int32), d + r = w * h → r < n → Pic (A 2) k w h (fun i => if i < d then sf i else sh i) → (∀ i, i < w * h → A 4 i = nI (sf i)) → ∃ A2, fX8_goSift_p_L65 n x (nI d) A = some A2 ∧ Pic (A2 2) k w h sf ∧ ∀ j, j ≠ 2 → A2 j = A j := by
  intro r
  induction r with
  | zero =>
    intro n d A hd hn H _
    have h36 := H.n36
    obtain ⟨n, rfl⟩ : ∃ m, n = m + 1 := ⟨n - 1, by omega⟩
    obtain rfl : d = w * h := by omega
    rw [fX8_goSift_p_L65_s, sh_b1_s H.dots, if_pos (nI_le (Nat.le_refl _) (by omega))]
    exact ⟨A, rfl, H.congs (fun i hi => if_pos hi), fun _ _ => rfl⟩
  | succ r ih =>
    intro n d A hd hn H h4
    have h36 := H.n36
    obtain ⟨n, rfl⟩ : ∃ m, n = m + 1 := ⟨n - 1, by omega⟩
    have hdn : d < w * h := by omega
    rw [fX8_goSift_p_L65_s, sh_b1_s H.dots, if_neg (nI_ge (by omega) (by omega)), sh_b1_s (sh_ald_n (by omega) (by omega)), h4 d hdn, sh_b1_s (H.stp hdn _), nI_1]
    obtain ⟨A2, e, H2, hr⟩ := ih n (d + 1) (va_up A 2 (upd (A 2) (3 + d) (nI (sf d)))) (by omega) (by omega) (by
      rw [va_up_self]
      refine (H.paint (d := d) (v := sf d) (h9 d hdn)).congs (fun i hi => ?_)
      by_cases q : i = d
      · rw [if_pos q, if_pos (by omega), q]
      · rw [if_neg q]
        by_cases q2 : i < d
        · rw [if_pos q2, if_pos (by omega)]
        · rw [if_neg q2, if_neg (by omega)]) (fun i hi => by rw [va_up_ne _ _ (by omega)]; exact h4 i hi)
    exact ⟨A2, e, H2, fun j hj => by rw [hr j hj, va_up_ne _ _ hj]⟩
theorem p_goSift_p {A : Nat → Nat → Int32} {k w h : Nat} {sh : Nat → Nat} (H : Pic (A 2) k w h sh) (kd : Bool) {m m0 : Nat} (hm : m ≤ 36) (h0 : IsM0 (w * h) sh m0) : ∃ A2, fX8_goSift_p A (z01 kd) (nI m) = some (nI (fb_ct (fun i => !decide (zsf k w h sh kd m m0 i = sh i)) (w * h)), A2) ∧ Pic (A2 2) k w h (zsf k w h sh kd m m0) ∧ ∀ j, j ≠ 2 → j ≠ 4 → A2 j = A j := by
  unfold fX8_goSift_p
  have h36 := H.n36
  obtain ⟨f2, e, hf⟩ := p_goSift_p_L6 H kd hm h0 (w * h) sh_fu 0 (A 4) (by omega) (by unfold sh_fu; omega) (fun i hi => absurd hi (Nat.not_lt_zero i))
  rw [nI_0, show nI (fb_ct (fun i => !decide (zsf k w h sh kd m m0 i = sh i)) 0) = 0 from rfl, show va_up A 4 (A 4) = A from funext fun j => by unfold va_up; by_cases q : j = 4 <;> simp [q]] at e
  obtain ⟨A2, e2, H2, hr⟩ := p_goSift_p_L65 (k := k) (sh := sh) (sf := zsf k w h sh kd m m0) (nI (fb_ct (fun i => !decide (zsf k w h sh kd m m0 i = sh i)) (w * h))) (fun d hd => Nat.le_trans (zsf_le h36 h0 hd) (H.sh9 hd)) (w * h) sh_fu 0 (va_up A 4 f2) (by omega) (by unfold sh_fu; omega) (by rw [va_up_ne _ _ (by omega)]; exact H.congs (fun i _ => (if_neg (Nat.not_lt_zero i)).symm)) (fun i hi => by rw [va_up_self]; exact hf i hi)
  rw [nI_0] at e2
  rw [sh_b2_s e, sh_b1_s e2]
  exact ⟨A2, rfl, H2, fun j h1 h2 => by rw [hr j h1, va_up_ne _ _ h2]⟩
theorem p_goSift_t_L6 {k w h : Nat} {sh : Nat → Nat} {A0 : Nat → Nat → Int32} (H : Pic (A0 3) k w h sh) (kd : Bool) {m m0 : Nat} (hm : m ≤ 36) (h0 : IsM0 (w * h) sh m0) : ∀ (r n d : Nat) (f : Nat → Int32), d + r = w * h → r < n → (∀ i, i < d → f i = nI (zsf k w h sh kd m m0 i)) → ∃ f2, fX8_goSift_t_L6 n (z01 kd) (nI m) (nI (fb_ct (fun i => !decide (zsf k w h sh kd m m0 i = sh i)) d)) (nI d) (va_up A0 4 f) = some (nI (fb_ct (fun i => !decide (zsf k w h sh kd m m0 i = sh i)) (w * h)), va_up A0 4 f2) ∧ ∀ i, i < w * h → f2 i = nI (zsf k w h sh kd m m0 i) := by
  have h36 := H.n36
  have hA : ∀ f : Nat → Int32, va_up A0 4 f 3 = A0 3 := fun f => va_up_ne A0 f (by omega)
  have hA4 : ∀ f : Nat → Int32, va_up A0 4 f 4 = f := fun f => va_up_self A0 4 f
  have hAA : ∀ f g : Nat → Int32, va_up (va_up A0 4 f) 4 g = va_up A0 4 g := fun f g => funext fun j => by unfold va_up; by_cases q : j = 4 <;> simp [q]
  intro r
  induction r with
  | zero =>
    intro n d f hd hn hf
    obtain ⟨n, rfl⟩ : ∃ m, n = m + 1 := ⟨n - 1, by omega⟩
    obtain rfl : d = w * h := by omega
    rw [fX8_goSift_t_L6_s, hA, sh_b1_s H.dots, if_pos (nI_le (Nat.le_refl _) (by omega))]
    exact ⟨f, rfl, hf⟩
  | succ r ih =>
    intro n d f hd hn hf
    obtain ⟨n, rfl⟩ : ∃ m, n = m + 1 := ⟨n - 1, by omega⟩
    have hdn : d < w * h := by omega
    have hs := ih n (d + 1) (upd f d (nI (zsf k w h sh kd m m0 d))) (by omega) (by omega) (fun i hi => by
      by_cases q : i = d
      · rw [q, pk_us]
      · rw [pk_un q]; exact hf i (by omega))
    rw [fb_ct_succ] at hs
    have hl := zsf_le (k := k) (kd := kd) (m := m) h36 h0 hdn
    have hd9 := H.sh9 hdn
    rw [fX8_goSift_t_L6_s, hA, hA4, sh_b1_s H.dots, if_neg (nI_ge (by omega) (by omega)), sh_b1_s (p_sifted H kd hm h0 hdn), sh_b1_s (sh_ast_n (by omega) (by omega)), sh_b1_s (sh_ald_n (by omega) (by omega)), sh_b1_s (H.shade hdn), pk_us, hAA, nI_1]
    by_cases q : zsf k w h sh kd m m0 d = sh d
    · rw [if_pos (by rw [q])]
      rw [decide_eq_true q] at hs
      rw [show ∀ x : Int32, x + 0 = x from fun x => by simp]
      exact hs
    · rw [if_neg (fun z => q ((nI_eq (by omega) (by omega)).mp z)), nI_1]
      rw [decide_eq_false q] at hs
      exact hs
theorem p_goSift_t_L65 {k w h : Nat} {sh sf : Nat → Nat} (x : Int32) (h9 : ∀ d, d < w * h → sf d ≤ 9) : ∀ (r n d : Nat) (A : Nat → Nat → Int32), d + r = w * h → r < n → Pic (A 3) k w h (fun i => if i < d then sf i else sh i) → (∀ i, i < w * h → A 4 i = nI (sf i)) → ∃ A2, fX8_goSift_t_L65 n x (nI d) A = some A2 ∧ Pic (A2 3) k w h sf ∧ ∀ j, j ≠ 3 → A2 j = A j := by
  intro r
  induction r with
  | zero =>
    intro n d A hd hn H _
    have h36 := H.n36
    obtain ⟨n, rfl⟩ : ∃ m, n = m + 1 := ⟨n - 1, by omega⟩
    obtain rfl : d = w * h := by omega
    rw [fX8_goSift_t_L65_s, sh_b1_s H.dots, if_pos (nI_le (Nat.le_refl _) (by omega))]
    exact ⟨A, rfl, H.congs (fun i hi => if_pos hi), fun _ _ => rfl⟩
  | succ r ih =>
    intro n d A hd hn H h4
    have h36 := H.n36
    obtain ⟨n, rfl⟩ : ∃ m, n = m + 1 := ⟨n - 1, by omega⟩
    have hdn : d < w * h := by omega
    rw [fX8_goSift_t_L65_s, sh_b1_s H.dots, if_neg (nI_ge (by omega) (by omega)), sh_b1_s (sh_ald_n (by omega) (by omega)), h4 d hdn, sh_b1_s (H.stp hdn _), nI_1]
    obtain ⟨A2, e, H2, hr⟩ := ih n (d + 1) (va_up A 3 (upd (A 3) (3 + d) (nI (sf d)))) (by omega) (by omega) (by
      rw [va_up_self]
      refine (H.paint (d := d) (v := sf d) (h9 d hdn)).congs (fun i hi => ?_)
      by_cases q : i = d
      · rw [if_pos q, if_pos (by omega), q]
      · rw [if_neg q]
        by_cases q2 : i < d
        · rw [if_pos q2, if_pos (by omega)]
        · rw [if_neg q2, if_neg (by omega)]) (fun i hi => by rw [va_up_ne _ _ (by omega)]; exact h4 i hi)
    exact ⟨A2, e, H2, fun j hj => by rw [hr j hj, va_up_ne _ _ hj]⟩
theorem p_goSift_t {A : Nat → Nat → Int32} {k w h : Nat} {sh : Nat → Nat} (H : Pic (A 3) k w h sh) (kd : Bool) {m m0 : Nat} (hm : m ≤ 36) (h0 : IsM0 (w * h) sh m0) : ∃ A2, fX8_goSift_t A (z01 kd) (nI m) = some (nI (fb_ct (fun i => !decide (zsf k w h sh kd m m0 i = sh i)) (w * h)), A2) ∧ Pic (A2 3) k w h (zsf k w h sh kd m m0) ∧ ∀ j, j ≠ 3 → j ≠ 4 → A2 j = A j := by
  unfold fX8_goSift_t
  have h36 := H.n36
  obtain ⟨f2, e, hf⟩ := p_goSift_t_L6 H kd hm h0 (w * h) sh_fu 0 (A 4) (by omega) (by unfold sh_fu; omega) (fun i hi => absurd hi (Nat.not_lt_zero i))
  rw [nI_0, show nI (fb_ct (fun i => !decide (zsf k w h sh kd m m0 i = sh i)) 0) = 0 from rfl, show va_up A 4 (A 4) = A from funext fun j => by unfold va_up; by_cases q : j = 4 <;> simp [q]] at e
  obtain ⟨A2, e2, H2, hr⟩ := p_goSift_t_L65 (k := k) (sh := sh) (sf := zsf k w h sh kd m m0) (nI (fb_ct (fun i => !decide (zsf k w h sh kd m m0 i = sh i)) (w * h))) (fun d hd => Nat.le_trans (zsf_le h36 h0 hd) (H.sh9 hd)) (w * h) sh_fu 0 (va_up A 4 f2) (by omega) (by unfold sh_fu; omega) (by rw [va_up_ne _ _ (by omega)]; exact H.congs (fun i _ => (if_neg (Nat.not_lt_zero i)).symm)) (fun i hi => by rw [va_up_self]; exact hf i hi)
  rw [nI_0] at e2
  rw [sh_b2_s e, sh_b1_s e2]
  exact ⟨A2, rfl, H2, fun j h1 h2 => by rw [hr j h1, va_up_ne _ _ h2]⟩
