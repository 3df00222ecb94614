/-! rise, light, growth -/
noncomputable def zrs (c : Nat → Nat → Bool) (sh : Nat → Nat) (b : Nat) : Nat → Option Nat
  | 0 => none
  | t + 1 => @ite _ (∃ i, c t i = true ∧ b < sh i) (Classical.propDecidable _) (some t) (zrs c sh b t)
theorem zrs_y {c : Nat → Nat → Bool} {sh : Nat → Nat} {b t : Nat} (h : ∃ i, c t i = true ∧ b < sh i) : zrs c sh b (t + 1) = some t := by
  show @ite _ (∃ i, c t i = true ∧ b < sh i) (Classical.propDecidable _) (some t) (zrs c sh b t) = _
  exact if_pos h
theorem zrs_n {c : Nat → Nat → Bool} {sh : Nat → Nat} {b t : Nat} (h : ¬ ∃ i, c t i = true ∧ b < sh i) : zrs c sh b (t + 1) = zrs c sh b t := by
  show @ite _ (∃ i, c t i = true ∧ b < sh i) (Classical.propDecidable _) (some t) (zrs c sh b t) = _
  exact if_neg h
def zro (l : Nat) (o : Option Nat) : Int32 := match o with
  | none => -9
  | some s => nI l - nI s
theorem p_rise8_L {p : Nat → Int32} {k w h : Nat} {sh : Nat → Nat} (H : Pic p k w h sh) {e b l : Nat} (he : e < w * h) (hl : l = sh e) (hb : b ≤ 9) : ∀ (t n : Nat), t ≤ l → t < n → fX8_rise_L25 n (nI l) (nI b) (nI e) (nI t - 1) p = some (match zrs (fun t => zC k w h sh t e) sh b t with | none => .inr () | some s => .inl (nI l - nI s)) := by
  have h36 := H.n36
  have h9 := H.sh9 he
  intro t
  induction t with
  | zero =>
    intro n _ hn
    obtain ⟨n, rfl⟩ : ∃ m, n = m + 1 := ⟨n - 1, by omega⟩
    rw [fX8_rise_L25_s, if_pos z_neg1]
    rfl
  | succ t ih =>
    intro n ht hn
    obtain ⟨n, rfl⟩ : ∃ m, n = m + 1 := ⟨n - 1, by omega⟩
    obtain ⟨b2, hb2, hm⟩ := ex_mx (S := zC k w h sh t e) (n := w * h) (sh := sh) (fun i hi => zC_lt hi) (fun d hd => H.sh9 hd) ⟨e, zC_self he (by omega)⟩
    rw [fX8_rise_L25_s, nI_pred, if_neg (nI_pos (by omega)), sh_b1_s (p_partC H (by omega) (by omega)), sh_b1_s (p_brt8 H (fun i hi => zC_lt hi) hm), z_m1]
    by_cases hc : ∃ i, zC k w h sh t e i = true ∧ b < sh i
    · rw [if_neg (show ¬ nI b2 ≤ nI b from nI_ge (by obtain ⟨i, hi, hi2⟩ := hc; have := hm.2 i hi; omega) (by omega)), zrs_y (c := fun t => zC k w h sh t e) hc]
    · rw [if_pos (show nI b2 ≤ nI b from nI_le (by obtain ⟨⟨i, hi, hi2⟩, -⟩ := hm; exact Nat.le_of_not_lt (fun q => hc ⟨i, hi, by omega⟩)) (by omega)), ih n (by omega) (by omega), zrs_n (c := fun t => zC k w h sh t e) hc]
theorem p_rise8 {p : Nat → Int32} {k w h : Nat} {sh : Nat → Nat} (H : Pic p k w h sh) {S : Nat → Bool} {l e b : Nat} (hS : Nd k w h sh S l e) (hb : b ≤ 9) (hm : IsMx sh S b) : fX8_rise p (zs S) = some (zro l (zrs (fun t => zC k w h sh t e) sh b l)) := by
  unfold fX8_rise
  have h9 := H.sh9 hS.1.1
  have hl := hS.lv
  have hq := p_rise8_L H hS.1.1 hl hb l sh_fu (Nat.le_refl _) (by unfold sh_fu; omega)
  rw [sh_b1_s (p_level8 H hS.1), sh_b1_s (p_brt8 H (fun i hi => hS.lt hi) hm), sh_b1_s (p_head8 H (fun i hi => hS.lt hi) hS.1)]
  cases hz : zrs (fun t => zC k w h sh t e) sh b l with
  | none => rw [hz] at hq; rw [sh_bs_r hq]; rfl
  | some s => rw [hz] at hq; rw [sh_bs_l hq]; rfl
theorem p_rise7_L {p : Nat → Int32} {gw gd gh : Int32} {ga gl gr : Int64} {sL : Nat → Int64} {k w h : Nat} {sh : Nat → Nat} (H : Sys p gw gd gh ga gl gr sL k w h sh) {S : Nat → Bool} {l e b : Nat} (hS : Nd k w h sh S l e) (tP : Nat → Int64) (tN : Nat → Int32) (tz : Int32) : ∀ (t n : Nat), t ≤ l → t < n → fX6_rise_L34 n (zs S) (nI l) (zs (up (w * h) sh (b + 1))) (nI t - 1) gw gd gh ga gl gr sL tP tN tz = some (match zrs (fun t => zC k w h sh t e) sh b t with | none => .inr () | some s => .inl (nI l - nI s)) := by
  have h36 := H.1.n36
  have he := hS.1.1
  have h9 := H.sh9 e he
  have hl := hS.lv
  intro t
  induction t with
  | zero =>
    intro n _ hn
    obtain ⟨n, rfl⟩ : ∃ m, n = m + 1 := ⟨n - 1, by omega⟩
    rw [fX6_rise_L34_s, if_pos z_neg1]
    rfl
  | succ t ih =>
    intro n ht hn
    obtain ⟨n, rfl⟩ : ∃ m, n = m + 1 := ⟨n - 1, by omega⟩
    rw [fX6_rise_L34_s, nI_pred, if_neg (nI_pos (by omega)), sh_b1_s (p_partAt H (by omega) S), show zq k w (up (w * h) sh t) S = zC k w h sh t e from by rw [hS.2]; exact zC_q he (by omega) (by omega), z_m1, zs_and]
    have hlt : ∀ i, (zC k w h sh t e i && up (w * h) sh (b + 1) i) = true → i < 36 := fun i hi => by rw [Bool.and_eq_true] at hi; exact Nat.lt_of_lt_of_le (zC_lt hi.1) h36
    by_cases hc : ∃ i, zC k w h sh t e i = true ∧ b < sh i
    · rw [if_neg (fun q => by
        obtain ⟨i, h1, h2⟩ := hc
        have := (zs_0 hlt).mp q i
        rw [h1, up_mk (zC_lt h1) h2] at this
        exact nomatch this), zrs_y (c := fun t => zC k w h sh t e) hc]
    · rw [if_pos ((zs_0 hlt).mpr (fun i => Bool.eq_false_iff.mpr (fun z => by
        rw [Bool.and_eq_true] at z
        exact hc ⟨i, z.1, up_le z.2⟩))), ih n (by omega) (by omega), zrs_n (c := fun t => zC k w h sh t e) hc]
theorem zrs_0 {c : Nat → Nat → Bool} {sh : Nat → Nat} {b : Nat} (h : ∀ t i, c t i = true → sh i ≤ b) : ∀ t, zrs c sh b t = none := by
  intro t
  induction t with
  | zero => rfl
  | succ t ih => rw [zrs_n (fun q => by obtain ⟨i, h1, h2⟩ := q; have := h t i h1; omega)]; exact ih
theorem p_rise7 {p : Nat → Int32} {gw gd gh : Int32} {ga gl gr : Int64} {sL : Nat → Int64} {k w h : Nat} {sh : Nat → Nat} (H : Sys p gw gd gh ga gl gr sL k w h sh) {S : Nat → Bool} {l e b : Nat} (hS : Nd k w h sh S l e) (hb : b ≤ 9) (hm : IsMx sh S b) (tP : Nat → Int64) (tN : Nat → Int32) (tz : Int32) : fX6_rise gw gd gh ga gl gr sL tP tN tz (zs S) (nI l) = some (zro l (zrs (fun t => zC k w h sh t e) sh b l)) := by
  unfold fX6_rise
  have h36 := H.1.n36
  have h9 := H.sh9 e hS.1.1
  have hl := hS.lv
  have hq := p_rise7_L H hS (b := b) tP tN tz l sh_fu (Nat.le_refl _) (by unfold sh_fu; omega)
  rw [sh_b1_s (p_brt7 H (fun i hi => hS.lt hi) hb hm), nI_1, sh_b1_s (p_atLeast H.2.2 H.sh9 (by omega))]
  by_cases h0 : zs (up (w * h) sh (b + 1)) = 0
  · have hz := (zs_0 (fun i hi => Nat.lt_of_lt_of_le (up_lt hi) h36)).mp h0
    rw [if_pos h0, zrs_0 (c := fun t => zC k w h sh t e) (fun t i hi => Nat.le_of_not_lt (fun q => by
      have := hz i
      rw [up_mk (zC_lt hi) q] at this
      exact nomatch this)) l]
    rfl
  · rw [if_neg h0]
    cases hz : zrs (fun t => zC k w h sh t e) sh b l with
    | none => rw [hz] at hq; rw [sh_bs_r hq]; rfl
    | some s => rw [hz] at hq; rw [sh_bs_l hq]; rfl
/-! light -/
theorem ct_sm (q : Nat → Bool) : ∀ n, fb_ct q n = fb_sm (fun d => if q d then 1 else 0) n := by
  intro n
  induction n with
  | zero => rfl
  | succ n ih => rw [fb_ct_succ, fb_sm_succ, ih]
def zlt (sh : Nat → Nat) (S : Nat → Bool) : Nat → Nat := fb_sm (fun d => if S d then sh d else 0)
theorem p_light8_L {p : Nat → Int32} {k w h : Nat} {sh : Nat → Nat} (H : Pic p k w h sh) (S : Nat → Bool) (x : Int64) (hx : ∀ i, i < w * h → zb x i = S i) : ∀ (r n d : Nat), d + r = w * h → r < n → fX8_light_L5 n x (nI (zlt sh S d)) (nI d) p = some (nI (zlt sh S (w * h))) := by
  have h36 := H.n36
  intro r
  induction r with
  | zero =>
    intro n d hd hn
    obtain ⟨n, rfl⟩ : ∃ m, n = m + 1 := ⟨n - 1, by omega⟩
    obtain rfl : d = w * h := by omega
    rw [fX8_light_L5_s, sh_b1_s H.dots, if_pos (nI_le (Nat.le_refl _) (by omega))]
  | succ r ih =>
    intro n d hd hn
    obtain ⟨n, rfl⟩ : ∃ m, n = m + 1 := ⟨n - 1, by omega⟩
    have hs := ih n (d + 1) (by omega) (by omega)
    rw [fX8_light_L5_s, sh_b1_s H.dots, if_neg (nI_ge (by omega) (by omega)), sh_b1_s (p_has _ (by omega)), hx d (by omega), nI_1]
    rw [show zlt sh S (d + 1) = zlt sh S d + (if S d then sh d else 0) from rfl] at hs
    cases hS : S d with
    | false =>
      rw [if_pos z01_f]
      rw [hS] at hs
      rw [show nI (zlt sh S d) + 0 = nI (zlt sh S d) from by simp]
      exact hs
    | true =>
      rw [if_neg z01_t, sh_b1_s (H.shade (by omega)), nI_add]
      rw [hS] at hs
      exact hs
theorem p_light8 {p : Nat → Int32} {k w h : Nat} {sh : Nat → Nat} (H : Pic p k w h sh) (S : Nat → Bool) (x : Int64) (hx : ∀ i, i < w * h → zb x i = S i) : fX8_light p x = some (nI (zlt sh S (w * h))) := by
  unfold fX8_light
  have h36 := H.n36
  have hq := p_light8_L H S x hx (w * h) sh_fu 0 (by omega) (by unfold sh_fu; omega)
  rw [nI_0, show nI (zlt sh S 0) = 0 from rfl] at hq
  rw [sh_b1_s hq]
/-- the light up to t -/
def zl2 (n : Nat) (sh : Nat → Nat) (S : Nat → Bool) (t : Nat) : Nat := fb_sm (fun d => if (decide (d < n) && S d) then min (sh d) t else 0) 36
theorem zl2_s (n : Nat) (sh : Nat → Nat) (S : Nat → Bool) (t : Nat) : zl2 n sh S t + fb_ct (fun d => up n sh (t + 1) d && S d) 36 = zl2 n sh S (t + 1) := by
  unfold zl2
  rw [ct_sm, ← fb_sm_add]
  apply fb_sm_cong
  intro d _
  unfold up
  cases h1 : decide (d < n) <;> cases h2 : S d <;> simp
  by_cases q : t + 1 ≤ sh d
  · simp [q]; omega
  · simp [q]; omega
theorem p_light7_L {sL : Nat → Int64} {n : Nat} {sh : Nat → Nat} (H : Lev sL n sh) (S : Nat → Bool) : ∀ (r m t : Nat), t + r = 9 → r < m → fX2_light_L5 m (zs S) (nI (zl2 n sh S t)) (nI (t + 1)) sL = some (nI (zl2 n sh S 9)) := by
  intro r
  induction r with
  | zero =>
    intro m t ht hm
    obtain ⟨m, rfl⟩ : ∃ x, m = x + 1 := ⟨m - 1, by omega⟩
    obtain rfl : t = 9 := by omega
    rw [fX2_light_L5_s, if_pos (show (10 : Int32) ≤ nI 10 from nI_le (Nat.le_refl _) (by omega))]
  | succ r ih =>
    intro m t ht hm
    obtain ⟨m, rfl⟩ : ∃ x, m = x + 1 := ⟨m - 1, by omega⟩
    have hs := ih m (t + 1) (by omega) (by omega)
    rw [fX2_light_L5_s, if_neg (show ¬ (10 : Int32) ≤ nI (t + 1) from nI_ge (b := 10) (by omega) (by omega)), sh_b1_s (sh_ald_n (by omega) (by omega)), H (t + 1) (by omega), zs_and, sh_b1_s (p_bcs _), nI_add, zl2_s, nI_1]
    exact hs
theorem zl2_9 {n : Nat} {sh : Nat → Nat} {S : Nat → Bool} (hn : n ≤ 36) (h9 : ∀ d, d < n → sh d ≤ 9) : zl2 n sh S 9 = zlt sh S n := by
  unfold zl2 zlt
  have e := fb_sm_split (fun d => if (decide (d < n) && S d) then min (sh d) 9 else 0) n (36 - n)
  rw [show n + (36 - n) = 36 by omega] at e
  have z : fb_sm (fun k => (fun d => if (decide (d < n) && S d) then min (sh d) 9 else 0) (n + k)) (36 - n) = 0 := by
    have := fb_sm_cong (f := fun k => (fun d => if (decide (d < n) && S d) then min (sh d) 9 else 0) (n + k)) (g := fun _ => 0) (n := 36 - n) (fun k _ => by simp [show ¬ n + k < n by omega])
    rw [this, fb_sm_const, Nat.mul_zero]
  have y : fb_sm (fun d => if (decide (d < n) && S d) then min (sh d) 9 else 0) n = fb_sm (fun d => if S d then sh d else 0) n := fb_sm_cong (fun d hd => by
    have := h9 d hd
    cases S d <;> simp [hd]
    omega)
  rw [e, z, y, Nat.add_zero]
theorem p_light7 {sL : Nat → Int64} {n : Nat} {sh : Nat → Nat} (H : Lev sL n sh) (hn : n ≤ 36) (h9 : ∀ d, d < n → sh d ≤ 9) (S : Nat → Bool) : fX2_light sL (zs S) = some (nI (zlt sh S n)) := by
  unfold fX2_light
  have hq := p_light7_L H S 9 sh_fu 0 (by omega) (by unfold sh_fu; omega)
  have z0 : zl2 n sh S 0 = 0 := by
    unfold zl2
    have := fb_sm_cong (f := fun d => if (decide (d < n) && S d) then min (sh d) 0 else 0) (g := fun _ => 0) (n := 36) (fun k _ => by simp)
    rw [this, fb_sm_const, Nat.mul_zero]
  rw [z0, nI_0, zl2_9 hn h9] at hq
  rw [show (1 : Int32) = nI (0 + 1) from rfl, sh_b1_s hq]
/-! growth -/
theorem ct_diff {S T : Nat → Bool} (h : ∀ i, S i = true → T i = true) : ∀ n, fb_ct T n = fb_ct S n + fb_ct (fun i => T i && !S i) n := by
  intro n
  induction n with
  | zero => rfl
  | succ n ih =>
    rw [fb_ct_succ, fb_ct_succ, fb_ct_succ, ih]
    cases hS : S n with
    | true => rw [h n hS]; simp; omega
    | false => cases hT : T n <;> simp <;> omega
theorem p_max {l d : Nat} (hl : l ≤ 9) (hd : d ≤ 9) : sh_max (nI l - nI d) 0 = nI (l - d) := by
  unfold sh_max
  rcases Nat.lt_or_ge l d with q | q
  · rw [if_pos (pk_sneg (by omega) q), show l - d = 0 by omega, nI_0]
  · rw [pk_sub q, if_neg (nI_pos (by omega))]
theorem p_gain7 {p : Nat → Int32} {gw gd gh : Int32} {ga gl gr : Int64} {sL : Nat → Int64} {k w h : Nat} {sh : Nat → Nat} (H : Sys p gw gd gh ga gl gr sL k w h sh) {S : Nat → Bool} {l e d : Nat} (hS : Nd k w h sh S l e) (hd : d ≤ 9) : fX6_gain gw gd gl gr sL (zs S) (nI l) (nI d) = some (nI (fb_ct (fun i => zC k w h sh (l - d) e i && !S i) 36)) := by
  unfold fX6_gain
  have he := hS.1.1
  have h9 := H.sh9 e he
  have hl := hS.lv
  rw [p_max (by omega) hd, sh_b1_s (p_partAt H (by omega) S), show zq k w (up (w * h) sh (l - d)) S = zC k w h sh (l - d) e from by rw [hS.2]; exact zC_q he (by omega) (by omega), zs_not, sh_b1_s (p_bcs _)]
