/-! parents, depths -/
theorem z_m1 (x : Int32) : x + (-1) = x - 1 := by rw [Int32.sub_eq_add_neg]
theorem z_neg1 : nI 0 - 1 < 0 := by decide
theorem p_partC {p : Nat → Int32} {k w h t d : Nat} {sh : Nat → Nat} (H : Pic p k w h sh) (ht : t < 2 ^ 31) (hd : d < 36) : fX8_part p (nI d) (nI t) = some (zs (zC k w h sh t d)) := p_part H ht hd
/-- a node: its level and its head -/
def Nd (k w h : Nat) (sh : Nat → Nat) (S : Nat → Bool) (l e : Nat) : Prop := IsHd (w * h) sh S l e ∧ S = zC k w h sh l e
theorem Nd.lt {k w h : Nat} {sh : Nat → Nat} {S : Nat → Bool} {l e : Nat} (H : Nd k w h sh S l e) {i : Nat} (hi : S i = true) : i < w * h := by rw [H.2] at hi; exact zC_lt hi
theorem Nd.lv {k w h : Nat} {sh : Nat → Nat} {S : Nat → Bool} {l e : Nat} (H : Nd k w h sh S l e) : l = sh e := H.1.2.2.1.symm
/-- the part at t of d is a node, if it has a dot of shade t -/
theorem nd_of {k w h : Nat} {sh : Nat → Nat} {t d m : Nat} (hm : zC k w h sh t d m = true) (hs : sh m = t) : ∃ e, Nd k w h sh (zC k w h sh t d) t e := by
  obtain ⟨l, e, he⟩ := ex_hd (n := w * h) (sh := sh) (S := zC k w h sh t d) (fun i hi => zC_lt hi) ⟨m, hm⟩
  have h1 := he.2.2.2.2 m hm
  have h2 := zC_le he.2.1
  have h3 := he.2.2.1
  obtain rfl : l = t := by omega
  exact ⟨e, he, zC_eq he.2.1⟩
theorem nd_dot {k w h : Nat} {sh : Nat → Nat} {d : Nat} (hd : d < w * h) : ∃ e, Nd k w h sh (zC k w h sh (sh d) d) (sh d) e := nd_of (zC_self hd (Nat.le_refl _)) rfl
/-- where the part grows, a dot of that shade came -/
theorem zC_grow {k w h : Nat} {sh : Nat → Nat} {t e : Nat} (he : e < w * h) (ht : t + 1 ≤ sh e) (hne : zC k w h sh t e ≠ zC k w h sh (t + 1) e) : ∃ m, zC k w h sh t e m = true ∧ sh m = t := by
  refine Classical.byContradiction fun hno => hne ?_
  have hall : ∀ i, zC k w h sh t e i = true → t + 1 ≤ sh i := fun i hi => by
    have := zC_le hi
    rcases Nat.lt_or_ge t (sh i) with q | q
    · exact q
    · exact absurd ⟨i, hi, by omega⟩ hno
  funext i
  apply Bool.eq_iff_iff.mpr
  constructor
  · intro hi
    refine zp_closed (X := zC k w h sh (t + 1) e) (S := up (w * h) sh t) (zC_self he ht) (fun a b ha _ hb hab => ?_) hi
    have h1 : zC k w h sh t e b = true := zp_iff.mpr (zc_step (zp_iff.mp (zC_mono (Nat.le_succ t) ha)) hb hab)
    exact zp_iff.mpr (zc_step (zp_iff.mp ha) (up_mk (zC_lt h1) (hall b h1)) hab)
  · exact fun hi => zC_mono (Nat.le_succ t) hi
/-- the level of the parent of c l, where c t is the part at t -/
noncomputable def zpl (c : Nat → Nat → Bool) (l : Nat) : Nat → Option Nat
  | 0 => none
  | t + 1 => @ite _ (c t = c l) (Classical.propDecidable _) (zpl c l t) (some t)
noncomputable def zpr (c : Nat → Nat → Bool) (l : Nat) : Nat → Nat → Bool := fun t => match zpl c l t with
  | none => c l
  | some s => c s
theorem zpl_s {c : Nat → Nat → Bool} {l t : Nat} (h : c t = c l) : zpl c l (t + 1) = zpl c l t := by
  show @ite _ (c t = c l) (Classical.propDecidable _) (zpl c l t) (some t) = zpl c l t
  exact if_pos h
theorem zpl_n {c : Nat → Nat → Bool} {l t : Nat} (h : ¬ c t = c l) : zpl c l (t + 1) = some t := by
  show @ite _ (c t = c l) (Classical.propDecidable _) (zpl c l t) (some t) = some t
  exact if_neg h
theorem zpl_none {c : Nat → Nat → Bool} {l : Nat} : ∀ {t : Nat}, zpl c l t = none → ∀ u, u < t → c u = c l := by
  intro t
  induction t with
  | zero => intro _ u hu; exact absurd hu (Nat.not_lt_zero u)
  | succ t ih =>
    intro h u hu
    by_cases hc : c t = c l
    · rw [zpl_s hc] at h
      rcases Nat.lt_or_ge u t with q | q
      · exact ih h u q
      · rw [show u = t by omega]; exact hc
    · rw [zpl_n hc] at h; exact nomatch h
theorem zpl_some {c : Nat → Nat → Bool} {l s : Nat} : ∀ {t : Nat}, zpl c l t = some s → s < t ∧ c s ≠ c l ∧ ∀ u, s < u → u < t → c u = c l := by
  intro t
  induction t with
  | zero => intro h; exact nomatch h
  | succ t ih =>
    intro h
    by_cases hc : c t = c l
    · rw [zpl_s hc] at h
      obtain ⟨a, b, d⟩ := ih h
      refine ⟨by omega, b, fun u h1 h2 => ?_⟩
      rcases Nat.lt_or_ge u t with q | q
      · exact d u h1 q
      · rw [show u = t by omega]; exact hc
    · rw [zpl_n hc] at h
      obtain rfl := Option.some.inj h
      exact ⟨by omega, hc, fun u h1 h2 => by omega⟩
theorem p_parent_L {p : Nat → Int32} {k w h : Nat} {sh : Nat → Nat} (H : Pic p k w h sh) {S : Nat → Bool} {l e : Nat} (hS : Nd k w h sh S l e) : ∀ (t n : Nat), t ≤ l → t + 1 < n → fX8_parent_L18 n (zs S) (nI e) (zs S) (nI t - 1) p = some (zs (zpr (fun t => zC k w h sh t e) l t)) := by
  have h36 := H.n36
  have he := hS.1.1
  have h9 := H.sh9 he
  have hl := hS.lv
  have hS36 : ∀ i, S i = true → i < 36 := fun i hi => Nat.lt_of_lt_of_le (hS.lt hi) h36
  have hc36 : ∀ t i, zC k w h sh t e i = true → i < 36 := fun t i hi => Nat.lt_of_lt_of_le (zC_lt hi) h36
  intro t
  induction t with
  | zero =>
    intro n _ hn
    obtain ⟨n, rfl⟩ : ∃ m, n = m + 1 := ⟨n - 1, by omega⟩
    rw [fX8_parent_L18_s, if_pos z_neg1]
    show some (zs S) = some (zs (zC k w h sh l e))
    rw [hS.2]
  | succ t ih =>
    intro n ht hn
    obtain ⟨n, rfl⟩ : ∃ m, n = m + 1 := ⟨n - 1, by omega⟩
    rw [fX8_parent_L18_s, nI_pred, if_neg (nI_pos (by omega)), if_pos rfl, sh_b1_s (p_partC H (by omega) (by omega)), z_m1]
    by_cases hc : zC k w h sh t e = S
    · rw [hc, ih n (by omega) (by omega)]
      have : zpl (fun t => zC k w h sh t e) l (t + 1) = zpl (fun t => zC k w h sh t e) l t := zpl_s (by show zC k w h sh t e = zC k w h sh l e; rw [hc, hS.2])
      unfold zpr
      rw [this]
    · have hz : zpl (fun t => zC k w h sh t e) l (t + 1) = some t := zpl_n (by show ¬ zC k w h sh t e = zC k w h sh l e; rw [← hS.2]; exact hc)
      obtain ⟨n, rfl⟩ : ∃ m, n = m + 1 := ⟨n - 1, by omega⟩
      rw [fX8_parent_L18_s]
      unfold zpr
      rw [hz]
      by_cases hn0 : nI t - 1 < 0
      · rw [if_pos hn0]
      · rw [if_neg hn0, if_neg (fun q => hc (zs_inj (hc36 t) hS36 q))]
theorem p_parent8 {p : Nat → Int32} {k w h : Nat} {sh : Nat → Nat} (H : Pic p k w h sh) {S : Nat → Bool} {l e : Nat} (hS : Nd k w h sh S l e) : fX8_parent p (zs S) = some (zs (zpr (fun t => zC k w h sh t e) l l)) := by
  unfold fX8_parent
  have h9 := H.sh9 hS.1.1
  have hl := hS.lv
  rw [sh_b1_s (p_head8 H (fun i hi => hS.lt hi) hS.1), sh_b1_s (p_level8 H hS.1), sh_b1_s (p_parent_L H hS l sh_fu (Nat.le_refl _) (by unfold sh_fu; omega))]
/-- the parent is a node, at the level that zpl says -/
theorem nd_parent {k w h : Nat} {sh : Nat → Nat} {S : Nat → Bool} {l e s : Nat} (hS : Nd k w h sh S l e) (hs : zpl (fun t => zC k w h sh t e) l l = some s) : ∃ e2, Nd k w h sh (zC k w h sh s e) s e2 ∧ zC k w h sh s e ≠ S ∧ s < l := by
  obtain ⟨a, b, d⟩ := zpl_some hs
  have hl := hS.lv
  have hne : zC k w h sh s e ≠ zC k w h sh (s + 1) e := by
    rcases Nat.lt_or_ge (s + 1) l with q | q
    · have : zC k w h sh (s + 1) e = zC k w h sh l e := d (s + 1) (by omega) q
      rw [this]; exact b
    · rw [show s + 1 = l by omega]; exact b
  obtain ⟨m, hm1, hm2⟩ := zC_grow hS.1.1 (by omega) hne
  obtain ⟨e2, he2⟩ := nd_of hm1 hm2
  exact ⟨e2, he2, by rw [hS.2]; exact b, a⟩
theorem p_parentLevel_L {p : Nat → Int32} {gw gd gh : Int32} {ga gl gr : Int64} {sL : Nat → Int64} {k w h : Nat} {sh : Nat → Nat} (H : Sys p gw gd gh ga gl gr sL k w h sh) {S : Nat → Bool} {l e : Nat} (hS : Nd k w h sh S l e) (tP : Nat → Int64) (tN : Nat → Int32) (tz : Int32) : ∀ (t n : Nat), t ≤ l → t < n → fX6_parentLevel_L5 n (zs S) (nI t - 1) gw gd gh ga gl gr sL tP tN tz = some (match zpl (fun t => zC k w h sh t e) l t with | none => .inr () | some s => .inl (nI s)) := by
  have h36 := H.1.n36
  have he := hS.1.1
  have h9 := H.sh9 e he
  have hl := hS.lv
  have hS36 : ∀ i, S i = true → i < 36 := fun i hi => Nat.lt_of_lt_of_le (hS.lt hi) h36
  have hc36 : ∀ t i, zC k w h sh t e i = true → i < 36 := fun t i hi => Nat.lt_of_lt_of_le (zC_lt hi) h36
  intro t
  induction t with
  | zero =>
    intro n _ hn
    obtain ⟨n, rfl⟩ : ∃ m, n = m + 1 := ⟨n - 1, by omega⟩
    rw [fX6_parentLevel_L5_s, if_pos z_neg1]
    rfl
  | succ t ih =>
    intro n ht hn
    obtain ⟨n, rfl⟩ : ∃ m, n = m + 1 := ⟨n - 1, by omega⟩
    rw [fX6_parentLevel_L5_s, nI_pred, if_neg (nI_pos (by omega)), sh_b1_s (p_partAt H (by omega) S)]
    rw [show zq k w (up (w * h) sh t) S = zC k w h sh t e from by rw [hS.2]; exact zC_q he (by omega) (by omega), z_m1]
    by_cases hc : zC k w h sh t e = S
    · rw [hc, if_pos rfl, ih n (by omega) (by omega)]
      have : zpl (fun t => zC k w h sh t e) l (t + 1) = zpl (fun t => zC k w h sh t e) l t := zpl_s (by show zC k w h sh t e = zC k w h sh l e; rw [hc, hS.2])
      rw [this]
    · have hz : zpl (fun t => zC k w h sh t e) l (t + 1) = some t := zpl_n (by show ¬ zC k w h sh t e = zC k w h sh l e; rw [← hS.2]; exact hc)
      rw [if_neg (fun q => hc (zs_inj (hc36 t) hS36 q)), hz]
/-- NONE, or the level -/
def zlo (o : Option Nat) : Int32 := match o with
  | none => -9
  | some s => nI s
theorem p_parentLevel {p : Nat → Int32} {gw gd gh : Int32} {ga gl gr : Int64} {sL : Nat → Int64} {k w h : Nat} {sh : Nat → Nat} (H : Sys p gw gd gh ga gl gr sL k w h sh) {S : Nat → Bool} {l e : Nat} (hS : Nd k w h sh S l e) (tP : Nat → Int64) (tN : Nat → Int32) (tz : Int32) : fX6_parentLevel gw gd gh ga gl gr sL tP tN tz (zs S) (nI l) = some (zlo (zpl (fun t => zC k w h sh t e) l l)) := by
  unfold fX6_parentLevel
  have h9 := H.sh9 e hS.1.1
  have hl := hS.lv
  have hq := p_parentLevel_L H hS tP tN tz l sh_fu (Nat.le_refl _) (by unfold sh_fu; omega)
  cases hz : zpl (fun t => zC k w h sh t e) l l with
  | none => rw [hz] at hq; rw [sh_bs_r hq]; rfl
  | some s => rw [hz] at hq; rw [sh_bs_l hq]; rfl
theorem z_ne9 (s : Nat) (hs : s < 2 ^ 31) : ¬ nI s = (-9) := by
  intro q
  have := nI_pos hs
  rw [q] at this
  exact this (by decide)
theorem p_parentHead {p : Nat → Int32} {gw gd gh : Int32} {ga gl gr : Int64} {sL : Nat → Int64} {k w h : Nat} {sh : Nat → Nat} (H : Sys p gw gd gh ga gl gr sL k w h sh) {S : Nat → Bool} {l e : Nat} (hS : Nd k w h sh S l e) (tP : Nat → Int64) (tN : Nat → Int32) (tz : Int32) : ∃ r, fX6_parentHead gw gd gh ga gl gr sL tP tN tz (zs S) (nI l) = some r ∧ ((zpl (fun t => zC k w h sh t e) l l = none ∧ r = -9) ∨ ∃ s e2, zpl (fun t => zC k w h sh t e) l l = some s ∧ Nd k w h sh (zC k w h sh s e) s e2 ∧ r = nI e2) := by
  unfold fX6_parentHead
  have h36 := H.1.n36
  have he := hS.1.1
  have h9 := H.sh9 e he
  have hl := hS.lv
  rw [sh_b1_s (p_parentLevel H hS tP tN tz)]
  cases hz : zpl (fun t => zC k w h sh t e) l l with
  | none => exact ⟨_, if_pos rfl, Or.inl ⟨rfl, rfl⟩⟩
  | some s =>
    obtain ⟨e2, hN, -, hsl⟩ := nd_parent hS hz
    have hr : zlo (some s) = nI s := rfl
    rw [hr, if_neg (z_ne9 s (by omega)), sh_b1_s (p_partAt H (by omega) S), show zq k w (up (w * h) sh s) S = zC k w h sh s e from by rw [hS.2]; exact zC_q he (by omega) (by omega), sh_b1_s (p_head7 H.2.2 h36 H.sh9 hN.1)]
    exact ⟨_, rfl, Or.inr ⟨s, e2, rfl, hN, rfl⟩⟩
/-! depths -/
/-- how often the part grows below l -/
noncomputable def zdc (c : Nat → Nat → Bool) : Nat → Nat
  | 0 => 0
  | t + 1 => zdc c t + @ite _ (c t = c (t + 1)) (Classical.propDecidable _) 0 1
theorem zdc_s {c : Nat → Nat → Bool} {t : Nat} (h : c t = c (t + 1)) : zdc c (t + 1) = zdc c t := by
  show zdc c t + @ite _ (c t = c (t + 1)) (Classical.propDecidable _) 0 1 = _
  rw [if_pos h]; rfl
theorem zdc_n {c : Nat → Nat → Bool} {t : Nat} (h : ¬ c t = c (t + 1)) : zdc c (t + 1) = zdc c t + 1 := by
  show zdc c t + @ite _ (c t = c (t + 1)) (Classical.propDecidable _) 0 1 = _
  rw [if_neg h]
theorem zdc_le (c : Nat → Nat → Bool) : ∀ t, zdc c t ≤ t := by
  intro t
  induction t with
  | zero => exact Nat.le_refl _
  | succ t ih =>
    by_cases h : c t = c (t + 1)
    · rw [zdc_s h]; omega
    · rw [zdc_n h]; omega
theorem p_depth7_L {p : Nat → Int32} {gw gd gh : Int32} {ga gl gr : Int64} {sL : Nat → Int64} {k w h : Nat} {sh : Nat → Nat} (H : Sys p gw gd gh ga gl gr sL k w h sh) {e : Nat} (he : e < w * h) : ∀ (t n c : Nat), t ≤ sh e → t < n → fX6_depth_L11 n (nI c) (zs (zC k w h sh t e)) (nI t - 1) gw gd gl gr sL = some (nI (c + zdc (fun t => zC k w h sh t e) t)) := by
  have h36 := H.1.n36
  have h9 := H.sh9 e he
  have hc36 : ∀ t i, zC k w h sh t e i = true → i < 36 := fun t i hi => Nat.lt_of_lt_of_le (zC_lt hi) h36
  intro t
  induction t with
  | zero =>
    intro n c _ hn
    obtain ⟨n, rfl⟩ : ∃ m, n = m + 1 := ⟨n - 1, by omega⟩
    rw [fX6_depth_L11_s, if_pos z_neg1]
    rfl
  | succ t ih =>
    intro n c ht hn
    obtain ⟨n, rfl⟩ : ∃ m, n = m + 1 := ⟨n - 1, by omega⟩
    rw [fX6_depth_L11_s, nI_pred, if_neg (nI_pos (by omega)), sh_b1_s (p_partAt H (by omega) _), zC_q he (by omega) ht, z_m1]
    by_cases hc : zC k w h sh t e = zC k w h sh (t + 1) e
    · rw [if_pos (by rw [hc]), ← hc, ih n c (by omega) (by omega), zdc_s hc]
    · rw [if_neg (fun q => hc (zs_inj (hc36 _) (hc36 _) q)), nI_1, ih n (c + 1) (by omega) (by omega), zdc_n hc]
      congr 2
      omega
theorem p_depth7 {p : Nat → Int32} {gw gd gh : Int32} {ga gl gr : Int64} {sL : Nat → Int64} {k w h : Nat} {sh : Nat → Nat} (H : Sys p gw gd gh ga gl gr sL k w h sh) {S : Nat → Bool} {l e : Nat} (hS : Nd k w h sh S l e) : fX6_depth gw gd gl gr sL (zs S) (nI l) = some (nI (zdc (fun t => zC k w h sh t e) l)) := by
  unfold fX6_depth
  have h9 := H.sh9 e hS.1.1
  have hl := hS.lv
  have hq := p_depth7_L H hS.1.1 l sh_fu 0 (by omega) (by unfold sh_fu; omega)
  rw [nI_0, ← hS.2, Nat.zero_add] at hq
  rw [sh_b1_s hq]
