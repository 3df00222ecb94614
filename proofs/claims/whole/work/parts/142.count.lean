/-! how many parts there are -/
theorem ct_tail {p : Nat → Bool} {m n : Nat} (h : m ≤ n) (hz : ∀ j, m ≤ j → j < n → p j = false) : fb_ct p n = fb_ct p m := by
  have e := fb_ct_split p m (n - m)
  rw [show m + (n - m) = n by omega] at e
  have e2 : fb_ct (fun k => p (m + k)) (n - m) = 0 := fb_ct_zero.mpr (fun k hk => hz (m + k) (by omega) (by omega))
  omega
/-- d is the least dot of its part -/
noncomputable def ld (k w : Nat) (S : Nat → Bool) (d : Nat) : Bool := S d && decide (fb_ct (zp k w S d) d = 0)
noncomputable def zcnt (k w : Nat) (S : Nat → Bool) : Nat := fb_ct (ld k w S) 36
/-- in whose part no dot is less than m -/
noncomputable def lf (k w : Nat) (S : Nat → Bool) (m : Nat) : Nat → Bool := fun i => S i && decide (fb_ct (zp k w S i) m = 0)
theorem zp_comm {k w : Nat} {S : Nat → Bool} {a b : Nat} : zp k w S a b = zp k w S b a := by
  apply Bool.eq_iff_iff.mpr
  rw [zp_iff, zp_iff]
  exact ⟨zc_symm, zc_symm⟩
theorem lf_iff {k w : Nat} {S : Nat → Bool} {m i : Nat} : lf k w S m i = true ↔ S i = true ∧ ∀ j, j < m → zp k w S i j = false := by
  unfold lf
  rw [Bool.and_eq_true, decide_eq_true_eq, fb_ct_zero]
theorem lf_0 {k w : Nat} {S : Nat → Bool} : lf k w S 0 = S := by
  funext i
  apply Bool.eq_iff_iff.mpr
  rw [lf_iff]
  exact ⟨fun h => h.1, fun h => ⟨h, fun j hj => absurd hj (Nat.not_lt_zero j)⟩⟩
theorem ld_lf {k w : Nat} {S : Nat → Bool} {m : Nat} : ld k w S m = lf k w S m m := rfl
theorem lf_mono {k w : Nat} {S : Nat → Bool} {m j i : Nat} (h : m ≤ j) (hi : lf k w S j i = true) : lf k w S m i = true := by
  rw [lf_iff] at hi ⊢
  exact ⟨hi.1, fun x hx => hi.2 x (Nat.lt_of_lt_of_le hx h)⟩
theorem lf_comp {k w : Nat} {S : Nat → Bool} {m i j : Nat} (hi : lf k w S m i = true) (hj : zp k w S i j = true) : lf k w S m j = true := by
  rw [lf_iff] at hi ⊢
  exact ⟨zp_sub hj, fun x hx => by rw [← zp_eq hj]; exact hi.2 x hx⟩
theorem lf_zp {k w : Nat} {S : Nat → Bool} {m d : Nat} (hd : lf k w S m d = true) : zp k w (lf k w S m) d = zp k w S d := by
  funext e
  apply Bool.eq_iff_iff.mpr
  constructor
  · exact fun h => zp_mono (fun i hi => (lf_iff.mp hi).1) h
  · intro h
    refine zp_closed (X := zp k w (lf k w S m) d) (S := S) (zp_self hd) (fun a b ha haS hb hab => ?_) h
    have h1 : zp k w S d a = true := zp_mono (fun i hi => (lf_iff.mp hi).1) ha
    have h2 : zp k w S d b = true := zp_iff.mpr (zc_step (zp_iff.mp h1) hb hab)
    exact zp_iff.mpr (zc_step (zp_iff.mp ha) (lf_comp hd h2) hab)
theorem lf_succ {k w : Nat} {S : Nat → Bool} {m i : Nat} : lf k w S (m + 1) i = (lf k w S m i && !zp k w S m i) := by
  apply Bool.eq_iff_iff.mpr
  rw [lf_iff, Bool.and_eq_true, lf_iff, Bool.not_eq_true', zp_comm]
  constructor
  · exact fun h => ⟨⟨h.1, fun j hj => h.2 j (by omega)⟩, h.2 m (by omega)⟩
  · rintro ⟨⟨h1, h2⟩, h3⟩
    refine ⟨h1, fun j hj => ?_⟩
    rcases Nat.lt_or_ge j m with q | q
    · exact h2 j q
    · rw [show j = m by omega]; exact h3
theorem lf_skip {k w : Nat} {S : Nat → Bool} {m : Nat} (h : ld k w S m = false) : lf k w S (m + 1) = lf k w S m := by
  funext i
  rw [lf_succ]
  cases hi : lf k w S m i with
  | false => rfl
  | true =>
    cases hz : zp k w S m i with
    | false => rfl
    | true =>
      have := lf_comp hi (j := m) (by rw [zp_comm]; exact hz)
      rw [ld_lf, this] at h
      exact nomatch h
theorem ld_ct {k w : Nat} {S : Nat → Bool} {n : Nat} (hn : n ≤ 36) (hS : ∀ i, S i = true → i < n) : fb_ct (ld k w S) n = zcnt k w S := by
  unfold zcnt
  refine (ct_tail hn (fun j hj _ => ?_)).symm
  unfold ld
  cases hs : S j with
  | false => rfl
  | true => have := hS _ hs; omega
theorem p_partsOf_L {p : Nat → Int32} {k w h : Nat} {sh : Nat → Nat} (H : Pic p k w h sh) {S : Nat → Bool} (hS : ∀ i, S i = true → i < w * h) : ∀ (r n d : Nat), d + r = w * h → r < n → fX8_partsOf_L14 n (zs (lf k w S d)) (nI (fb_ct (ld k w S) d)) (nI d) p = some (nI (zcnt k w S)) := by
  have h36 := H.n36
  have hL : ∀ m i, lf k w S m i = true → i < w * h := fun m i hi => hS i (lf_iff.mp hi).1
  intro r
  induction r with
  | zero =>
    intro n d hd hn
    obtain ⟨n, rfl⟩ : ∃ m, n = m + 1 := ⟨n - 1, by omega⟩
    obtain rfl : d = w * h := by omega
    rw [fX8_partsOf_L14_s, sh_b1_s H.dots, if_pos (nI_le (Nat.le_refl _) (by omega)), ld_ct h36 hS]
  | succ r ih =>
    intro n d hd hn
    obtain ⟨n, rfl⟩ : ∃ m, n = m + 1 := ⟨n - 1, by omega⟩
    have hs := ih n (d + 1) (by omega) (by omega)
    rw [fX8_partsOf_L14_s, sh_b1_s H.dots, if_neg (nI_ge (by omega) (by omega)), sh_b1_s (p_has _ (by omega)), zb_zs' (fun i hi => Nat.lt_of_lt_of_le (hL d i hi) h36), ← ld_lf]
    cases hz : ld k w S d with
    | false =>
      rw [if_pos z01_f, nI_1]
      rw [lf_skip hz, show fb_ct (ld k w S) (d + 1) = fb_ct (ld k w S) d from by rw [fb_ct_succ, hz]; rfl] at hs
      exact hs
    | true =>
      rw [if_neg z01_t, H.way, sh_b1_s (p_spread H H.kk (hL d) (by omega)), lf_zp (by rw [← ld_lf]; exact hz), zs_not, nI_1, nI_1]
      rw [show lf k w S (d + 1) = (fun i => lf k w S d i && !zp k w S d i) from funext fun i => lf_succ, show fb_ct (ld k w S) (d + 1) = fb_ct (ld k w S) d + 1 from by rw [fb_ct_succ, hz]; rfl] at hs
      exact hs
theorem p_partsOf {p : Nat → Int32} {k w h t : Nat} {sh : Nat → Nat} (H : Pic p k w h sh) (ht : t < 2 ^ 31) (m : Int64) : fX8_partsOf p (nI t) m = some (nI (zcnt k w (fun i => up (w * h) sh t i && zb m i))) := by
  unfold fX8_partsOf
  have h36 := H.n36
  have hq := p_partsOf_L H (S := fun i => up (w * h) sh t i && zb m i) (fun i hi => by simp only [Bool.and_eq_true] at hi; exact up_lt hi.1) (w * h) sh_fu 0 (by omega) (by unfold sh_fu; omega)
  rw [lf_0, show fb_ct (ld k w fun i => up (w * h) sh t i && zb m i) 0 = 0 from rfl, nI_0] at hq
  rw [sh_b1_s (p_bright H ht m), sh_b1_s hq]
theorem p_partsOf1 {p : Nat → Int32} {k w h t : Nat} {sh : Nat → Nat} (H : Pic p k w h sh) (ht : t < 2 ^ 31) : fX8_partsOf p (nI t) (-1) = some (nI (zcnt k w (up (w * h) sh t))) := by
  rw [p_partsOf H ht]
  congr 3
  funext i
  rw [zb_m1]
  cases hi : up (w * h) sh t i with
  | false => rfl
  | true => have := up_lt hi; have := H.n36; simp [show i < 64 by omega]
/-- the least of a set that isn't empty -/
theorem z_least {S : Nat → Bool} (hS : ∀ i, S i = true → i < 36) (h : zs S ≠ 0) : ∃ e, e < 36 ∧ S e = true ∧ ∀ j, j < e → S j = false := by
  have hx : ∃ i, i < 36 ∧ S i = true := by
    refine Classical.byContradiction fun hno => h ((zs_0 hS).mpr (fun i => ?_))
    apply Bool.eq_false_iff.mpr
    intro q
    exact hno ⟨i, hS i q, q⟩
  obtain ⟨e, he, h1, h2⟩ := fb_first (p := fun i => S i = true) hx
  exact ⟨e, he, h1, fun j hj => Bool.eq_false_iff.mpr (h2 j hj)⟩
/-- the next part is taken away -/
theorem lf_next {k w : Nat} {S : Nat → Bool} {m e : Nat} (h1 : lf k w S m e = true) (h2 : ∀ j, j < e → lf k w S m j = false) : m ≤ e ∧ ld k w S e = true ∧ (∀ i, (lf k w S m i && !zp k w S e i) = lf k w S (e + 1) i) ∧ fb_ct (ld k w S) (e + 1) = fb_ct (ld k w S) m + 1 := by
  have hme : m ≤ e := by
    rcases Nat.lt_or_ge e m with q | q
    · have := (lf_iff.mp h1).2 e q
      rw [zp_self (lf_iff.mp h1).1] at this
      exact nomatch this
    · exact q
  have hld : ld k w S e = true := by
    rw [ld_lf, lf_iff]
    refine ⟨(lf_iff.mp h1).1, fun j hj => ?_⟩
    apply Bool.eq_false_iff.mpr
    intro q
    have := lf_comp h1 q
    rw [h2 j hj] at this
    exact nomatch this
  refine ⟨hme, hld, fun i => ?_, ?_⟩
  · apply Bool.eq_iff_iff.mpr
    rw [Bool.and_eq_true, Bool.not_eq_true']
    constructor
    · rintro ⟨a, b⟩
      rw [lf_iff]
      refine ⟨(lf_iff.mp a).1, fun j hj => ?_⟩
      apply Bool.eq_false_iff.mpr
      intro q
      rcases Nat.lt_or_ge j e with z | z
      · have := lf_comp a q
        rw [h2 j z] at this
        exact nomatch this
      · have hje : j = e := by omega
        subst hje
        rw [zp_comm] at q
        rw [q] at b
        exact nomatch b
    · intro a
      refine ⟨lf_mono (by omega) a, ?_⟩
      rw [zp_comm]
      exact (lf_iff.mp a).2 e (by omega)
  · rw [fb_ct_succ, hld, if_pos rfl, ct_tail hme (fun j hj hje => ?_)]
    apply Bool.eq_false_iff.mpr
    intro q
    rw [ld_lf] at q
    have := lf_mono (m := m) (by omega) q
    rw [h2 j hje] at this
    exact nomatch this
theorem lf_end {k w : Nat} {S : Nat → Bool} {m : Nat} (hm : m ≤ 36) (h : ∀ i, lf k w S m i = false) : fb_ct (ld k w S) m = zcnt k w S := by
  unfold zcnt
  refine (ct_tail hm (fun j hj _ => ?_)).symm
  apply Bool.eq_false_iff.mpr
  intro q
  rw [ld_lf] at q
  have := lf_mono (m := m) hj q
  rw [h j] at this
  exact nomatch this
theorem p_countParts_L {gw gd gh : Int32} {ga gl gr : Int64} {k w h K : Nat} (H : Lay gw gd gh ga gl gr k w h) (hK : K = 4 ∨ K = 8) {S : Nat → Bool} (hS : ∀ i, S i = true → i < w * h) : ∀ (r n m : Nat), 36 ≤ m + r → m ≤ 36 → r < n → fX1_countParts_L6 n (zs S) (nI K) (zs (lf K w S m)) (nI (fb_ct (ld K w S) m)) gd gl gr = some (nI (zcnt K w S)) := by
  have h36 : w * h ≤ 36 := z36 H.2.2.2.2.2.2.2.1 H.2.2.2.2.2.2.2.2
  have hL : ∀ m i, lf K w S m i = true → i < 36 := fun m i hi => Nat.lt_of_lt_of_le (hS i (lf_iff.mp hi).1) h36
  intro r
  induction r with
  | zero =>
    intro n m hr hm hn
    obtain ⟨n, rfl⟩ : ∃ m, n = m + 1 := ⟨n - 1, by omega⟩
    obtain rfl : m = 36 := by omega
    have he : ∀ i, lf K w S 36 i = false := fun i => by
      apply Bool.eq_false_iff.mpr
      intro q
      have := (lf_iff.mp q).2 i (hL 36 i q)
      rw [zp_self (lf_iff.mp q).1] at this
      exact nomatch this
    rw [fX1_countParts_L6_s, (zs_0 (hL 36)).mpr he, lf_end (by omega) he]
    by_cases hc : (36 : Int32) ≤ nI (zcnt K w S)
    · rw [if_pos hc]
    · rw [if_neg hc, if_pos rfl]
  | succ r ih =>
    intro n m hr hm hn
    obtain ⟨n, rfl⟩ : ∃ m, n = m + 1 := ⟨n - 1, by omega⟩
    have hcm := fb_ct_le (ld K w S) m
    rw [fX1_countParts_L6_s]
    by_cases hz : zs (lf K w S m) = 0
    · have he := (zs_0 (hL m)).mp hz
      rw [hz, lf_end hm he]
      by_cases hc : (36 : Int32) ≤ nI (zcnt K w S)
      · rw [if_pos hc]
      · rw [if_neg hc, if_pos rfl]
    · obtain ⟨e, he, h1, h2⟩ := z_least (hL m) hz
      obtain ⟨n1, n2, n3, n4⟩ := lf_next h1 h2
      have hc2 := fb_ct_le (ld K w S) (e + 1)
      rw [if_neg (show ¬ (36 : Int32) ≤ nI (fb_ct (ld K w S) m) from nI_ge (b := 36) (by omega) (by omega)), if_neg hz, p_lows he h1 h2, sh_b1_s (p_around7 H hK hS), zq_one, zs_not, show (fun i => lf K w S m i && !zp K w S e i) = lf K w S (e + 1) from funext n3, nI_1, ← n4]
      exact ih n (e + 1) (by omega) (by omega) (by omega)
theorem p_countParts {gw gd gh : Int32} {ga gl gr : Int64} {k w h K : Nat} (H : Lay gw gd gh ga gl gr k w h) (hK : K = 4 ∨ K = 8) {S : Nat → Bool} (hS : ∀ i, S i = true → i < w * h) : fX1_countParts gd gl gr (zs S) (nI K) = some (nI (zcnt K w S)) := by
  unfold fX1_countParts
  have hq := p_countParts_L H hK hS 36 sh_fu 0 (by omega) (by omega) (by unfold sh_fu; omega)
  rw [lf_0, show fb_ct (ld K w S) 0 = 0 from rfl, nI_0] at hq
  rw [sh_b1_s hq]
