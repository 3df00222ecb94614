/-! ways to explain what was seen -/
/-- one sight is so -/
noncomputable def zsg (K w h : Nat) (T : Nat → Bool) (x y : Nat) : Bool := decide (x < w * h) && (decide (y < w * h) && zp K w T x y)
theorem p_joinedA {p : Nat → Int32} {gw gd gh : Int32} {ga gl gr : Int64} {sL : Nat → Int64} {k w h K : Nat} {sh : Nat → Nat} (H : Sys p gw gd gh ga gl gr sL k w h sh) (hK : K = 4 ∨ K = 8) {T : Nat → Bool} (hT : ∀ i, T i = true → i < w * h) {a b : Nat} (ha : a < 36) (hb : b < 36) : fX1_joined gd gh gl gr (zs T) (nI a) (nI b) (nI K) = some (z01 (zp K w T a b)) := by
  have h36 := H.1.n36
  by_cases qa : a < w * h
  · by_cases qb : b < w * h
    · exact p_joined7 H hK hT qa qb
    · unfold fX1_joined
      rw [sh_b1_s (p_hasDot H.2.1.2.1 H.2.1.2.2.1 (by omega) qa), if_neg z10, sh_b1_s (p_hasDot0 H.2.1.2.1 H.2.1.2.2.1 (Or.inr (nI_le (by omega) (by omega)))), if_pos rfl, Bool.eq_false_iff.mpr (fun z : zp K w T a b = true => qb (hT b (zp_sub z)))]; rfl
  · unfold fX1_joined
    rw [sh_b1_s (p_hasDot0 H.2.1.2.1 H.2.1.2.2.1 (Or.inr (nI_le (by omega) (by omega)))), if_pos rfl, zp_none (Bool.eq_false_iff.mpr (fun z => qa (hT a z))) b]; rfl
theorem z01_inj {a b : Bool} : z01 a = z01 b ↔ a = b := by cases a <;> cases b <;> decide
/-- the sights from i on hold -/
def zhd (K w : Nat) (T : Nat → Bool) (a1 a2 a3 : Nat → Int32) : Nat → Nat → Prop := fun i n => ∀ j, i ≤ j → j < n → ∀ (x y : Nat) (c : Bool), x < 36 → y < 36 → a1 j = nI x → a2 j = nI y → a3 j = z01 c → zp K w T x y = c
theorem p_hold_L {p : Nat → Int32} {gw gd gh : Int32} {ga gl gr : Int64} {sL : Nat → Int64} {k w h K : Nat} {sh : Nat → Nat} (H : Sys p gw gd gh ga gl gr sL k w h sh) (hK : K = 4 ∨ K = 8) {T : Nat → Bool} (hT : ∀ i, T i = true → i < w * h) {a1 a2 a3 b1 b2 b3 : Nat → Int32} {sn : Nat} (hs : sn ≤ 6) (HS : Sg sn a1 a2 a3 b1 b2 b3) {I2 : Nat → Int32} (hI : I2 3 = nI sn) {A2 : Nat → Nat → Int32} (hA : A2 2 = p) (h8 : A2 8 = b1) (h9 : A2 9 = b2) (h10 : A2 10 = b3) : ∀ (r n m i : Nat), i + r = sn → r < n → r < m → ∃ b : Bool, fX3_hold_L9 n (zs T) (nI K) (nI i) a1 a2 a3 (nI sn) gw gd gh ga gl gr = some (if b then .inr () else .inl 0) ∧ fX8_explains_L18 m (nI K) (zs T) 1 (nI i) I2 A2 = some (z01 b) := by
  have h36 := H.1.n36
  have hzero : ∀ (r m i : Nat), i + r = sn → r < m → fX8_explains_L18 m (nI K) (zs T) 0 (nI i) I2 A2 = some 0 := by
    intro r
    induction r with
    | zero =>
      intro m i hi hm
      obtain ⟨m, rfl⟩ : ∃ x, m = x + 1 := ⟨m - 1, by omega⟩
      obtain rfl : i = sn := by omega
      rw [fX8_explains_L18_s, hI, if_pos (nI_le (Nat.le_refl _) (by omega))]
    | succ r ih =>
      intro m i hi hm
      obtain ⟨m, rfl⟩ : ∃ x, m = x + 1 := ⟨m - 1, by omega⟩
      obtain ⟨⟨c1, c2, c3⟩, x, y, c, hx, hy, e1, e2, e3⟩ := HS i (by omega)
      rw [fX8_explains_L18_s, hI, if_neg (nI_ge (by omega) (by omega)), h8, h9, hA, sh_b1_s (sh_ald_n (by omega) (by omega)), ← c1, e1, sh_b1_s (p_spread H.1 hK hT hx), sh_b1_s (sh_ald_n (by omega) (by omega)), ← c2, e2, sh_b1_s (p_has _ (by omega)), if_pos rfl, nI_1]
      exact ih m (i + 1) (by omega) (by omega)
  intro r
  induction r with
  | zero =>
    intro n m i hi hn hm
    obtain ⟨n, rfl⟩ : ∃ x, n = x + 1 := ⟨n - 1, by omega⟩
    obtain ⟨m, rfl⟩ : ∃ x, m = x + 1 := ⟨m - 1, by omega⟩
    obtain rfl : i = sn := by omega
    rw [fX3_hold_L9_s, if_pos (nI_le (Nat.le_refl _) (by omega)), fX8_explains_L18_s, hI, if_pos (nI_le (Nat.le_refl _) (by omega))]
    exact ⟨true, rfl, rfl⟩
  | succ r ih =>
    intro n m i hi hn hm
    obtain ⟨n, rfl⟩ : ∃ x, n = x + 1 := ⟨n - 1, by omega⟩
    obtain ⟨m, rfl⟩ : ∃ x, m = x + 1 := ⟨m - 1, by omega⟩
    obtain ⟨⟨c1, c2, c3⟩, x, y, c, hx, hy, e1, e2, e3⟩ := HS i (by omega)
    have hP36 : ∀ j, zp K w T x j = true → j < 36 := fun j hj => Nat.lt_of_lt_of_le (hT j (zp_sub hj)) h36
    rw [fX3_hold_L9_s, if_neg (nI_ge (by omega) (by omega)), if_neg (show ¬ (6 : Int32) ≤ nI i from nI_ge (b := 6) (by omega) (by omega)), sh_b1_s (sh_ald_n (by omega) (by omega)), sh_b1_s (sh_ald_n (by omega) (by omega)), e1, e2, sh_b1_s (p_joinedA H hK hT hx hy), sh_b1_s (sh_ald_n (by omega) (by omega)), e3, fX8_explains_L18_s, hI, if_neg (nI_ge (by omega) (by omega)), h8, h9, h10, hA, sh_b1_s (sh_ald_n (by omega) (by omega)), ← c1, e1, sh_b1_s (p_spread H.1 hK hT hx), sh_b1_s (sh_ald_n (by omega) (by omega)), ← c2, e2, sh_b1_s (p_has _ (by omega)), zb_zs' hP36, if_neg z10, sh_b1_s (sh_ald_n (by omega) (by omega)), ← c3, e3, nI_1]
    obtain ⟨b, f1, f2⟩ := ih n m (i + 1) (by omega) (by omega) (by omega)
    have f0 := hzero r m (i + 1) (by omega) (by omega)
    cases hz : zp K w T x y <;> cases c
    · exact ⟨b, f1, f2⟩
    · exact ⟨false, rfl, f0⟩
    · exact ⟨false, rfl, f0⟩
    · exact ⟨b, f1, f2⟩
