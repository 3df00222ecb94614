/-! the class's grid -/
def Lay (gw gd gh : Int32) (ga gl gr : Int64) (k w h : Nat) : Prop := gw = nI k ∧ gd = nI w ∧ gh = nI h ∧ ga = zs (fun i => decide (i < w * h)) ∧ gl = zs (fun i => decide (i < w * h) && decide (i % w = 0)) ∧ gr = zs (fun i => decide (i < w * h) && decide (i % w = w - 1)) ∧ (k = 4 ∨ k = 8) ∧ (1 ≤ w ∧ w ≤ 6) ∧ (1 ≤ h ∧ h ≤ 6)
theorem lay_a : ∀ w, w < 7 → ∀ h, h < 7 → 1 ≤ w → 1 ≤ h → fX1_lay_L40 sh_fu 0 (nI w) (nI h) 0 = some (zs (fun i => decide (i < w * h) && decide (i % w = 0))) := by decide +kernel
theorem lay_b : ∀ w, w < 7 → ∀ h, h < 7 → 1 ≤ w → 1 ≤ h → sh_lsl 1 (nI w * nI h) - 1 = zs (fun i => decide (i < w * h)) := by decide +kernel
theorem lay_c : ∀ w, w < 7 → ∀ h, h < 7 → 1 ≤ w → 1 ≤ h → sh_lsl (zs (fun i => decide (i < w * h) && decide (i % w = 0))) (nI w - 1) = zs (fun i => decide (i < w * h) && decide (i % w = w - 1)) := by decide +kernel
theorem p_lay {k w h : Nat} (hk : k = 4 ∨ k = 8) (hw : 1 ≤ w ∧ w ≤ 6) (hh : 1 ≤ h ∧ h ≤ 6) : ∃ ga gl gr, fX1_lay (nI k) (nI w) (nI h) = some (nI k, nI w, nI h, ga, gl, gr) ∧ Lay (nI k) (nI w) (nI h) ga gl gr k w h := by
  have h1 := lay_a w (by omega) h (by omega) hw.1 hh.1
  have h2 := lay_b w (by omega) h (by omega) hw.1 hh.1
  have h3 := lay_c w (by omega) h (by omega) hw.1 hh.1
  refine ⟨_, _, _, ?_, rfl, rfl, rfl, rfl, rfl, rfl, hk, hw, hh⟩
  unfold fX1_lay
  rw [sh_b1_s h1, h2, h3]
theorem zadj_4 : ∀ w, w < 7 → 1 ≤ w → ∀ a, a < 36 → ∀ e, e < 36 → zadj 4 w a e = (decide (e = a + 1 ∧ a % w ≠ w - 1) || (decide (a = e + 1 ∧ a % w ≠ 0) || (decide (e = a + w) || decide (a = e + w)))) := by decide +kernel
theorem zadj_8 : ∀ w, w < 7 → 1 ≤ w → ∀ a, a < 36 → ∀ e, e < 36 → zadj 8 w a e = (decide (e = a + 1 ∧ a % w ≠ w - 1) || (decide (a = e + 1 ∧ a % w ≠ 0) || (decide (e = a + w) || (decide (a = e + w) || (decide (e = a + 1 + w ∧ a % w ≠ w - 1) || (decide (e + 1 = a + w ∧ a % w ≠ 0) || (decide (a + 1 = e + w ∧ a % w ≠ w - 1) || decide (a = e + w + 1 ∧ a % w ≠ 0)))))))) := by decide +kernel
theorem z36 {w h : Nat} (hw : 1 ≤ w ∧ w ≤ 6) (hh : 1 ≤ h ∧ h ≤ 6) : w * h ≤ 36 := Nat.mul_le_mul hw.2 hh.2
/-- beside: what is left or right of a set, too -/
def zbes (w : Nat) (P : Nat → Bool) (e : Nat) : Prop := P e = true ∨ (1 ≤ e ∧ P (e - 1) = true ∧ (e - 1) % w ≠ w - 1) ∨ (P (e + 1) = true ∧ (e + 1) % w ≠ 0)
theorem p_bes {w h : Nat} (hw : 1 ≤ w ∧ w ≤ 6) (hh : 1 ≤ h ∧ h ≤ 6) {P : Nat → Bool} (hP : ∀ i, P i = true → i < w * h) (e : Nat) : zb ((zs P ||| (sh_lsl (zs P &&& (zs (fun i => decide (i < w * h) && decide (i % w = w - 1)) ^^^ (-1))) 1)) ||| (sh_lsr (zs P &&& (zs (fun i => decide (i < w * h) && decide (i % w = 0)) ^^^ (-1))) 1)) e = true ↔ zbes w P e := by
  have h36 := z36 hw hh
  have hP36 : ∀ i, P i = true → i < 36 := fun i hi => Nat.lt_of_lt_of_le (hP i hi) h36
  rw [zs_not, zs_not, zb_or, zb_or, zb_zs' hP36, show sh_lsl (zs fun i => P i && !(decide (i < w * h) && decide (i % w = w - 1))) 1 = sh_lsl (zs fun i => P i && !(decide (i < w * h) && decide (i % w = w - 1))) (nI 1) from rfl, zb_lsl _ (by omega), show sh_lsr (zs fun i => P i && !(decide (i < w * h) && decide (i % w = 0))) 1 = sh_lsr (zs fun i => P i && !(decide (i < w * h) && decide (i % w = 0))) (nI 1) from rfl, zb_lsr _ (by omega), zb_zs' (fun i hi => hP36 i (by simp only [Bool.and_eq_true] at hi; exact hi.1)), zb_zs' (fun i hi => hP36 i (by simp only [Bool.and_eq_true] at hi; exact hi.1))]
  unfold zbes
  simp only [Bool.or_eq_true, Bool.and_eq_true, decide_eq_true_eq, Bool.not_eq_true', Bool.and_eq_false_iff, decide_eq_false_iff_not]
  constructor
  · rintro ((h1 | ⟨-, h2, h3, h4⟩) | ⟨h5, h6⟩)
    · exact Or.inl h1
    · exact Or.inr (Or.inl ⟨h2, h3, h4.elim (fun q => absurd (hP _ h3) q) id⟩)
    · rw [Nat.add_comm 1 e] at h5 h6
      exact Or.inr (Or.inr ⟨h5, h6.elim (fun q => absurd (hP _ h5) q) id⟩)
  · rintro (h1 | ⟨h2, h3, h4⟩ | ⟨h5, h6⟩)
    · exact Or.inl (Or.inl h1)
    · exact Or.inl (Or.inr ⟨by have := hP36 _ h3; omega, h2, h3, Or.inr h4⟩)
    · rw [Nat.add_comm 1 e]
      exact Or.inr ⟨h5, Or.inr h6⟩
theorem p_spread7 {gw gd gh : Int32} {ga gl gr : Int64} {k w h K : Nat} (H : Lay gw gd gh ga gl gr k w h) (hK : K = 4 ∨ K = 8) {P : Nat → Bool} (hP : ∀ i, P i = true → i < w * h) : ∃ y, fX1_spread gd gl gr (zs P) (nI K) = some y ∧ ∀ e, e < w * h → (zb y e = true ↔ (P e = true ∨ ∃ a, P a = true ∧ zadj K w a e = true)) := by
  obtain ⟨rfl, rfl, rfl, rfl, rfl, rfl, hk, hw, hh⟩ := H
  have h36 := z36 hw hh
  have hP36 : ∀ i, P i = true → i < 36 := fun i hi => Nat.lt_of_lt_of_le (hP i hi) h36
  unfold fX1_spread sh_nm
  generalize hy : ((zs P ||| (sh_lsl (zs P &&& (zs (fun i => decide (i < w * h) && decide (i % w = w - 1)) ^^^ (-1))) 1)) ||| (sh_lsr (zs P &&& (zs (fun i => decide (i < w * h) && decide (i % w = 0)) ^^^ (-1))) 1)) = y
  have hb : ∀ e, zb y e = true ↔ zbes w P e := fun e => by rw [← hy]; exact p_bes hw hh hP e
  dsimp only
  rcases hK with rfl | rfl
  · rw [if_neg (show ¬ nI 4 = 8 by decide)]
    refine ⟨_, rfl, fun e he => ?_⟩
    rw [zb_or, zb_or, zb_lsl _ (by omega), zb_lsr _ (by omega), zb_zs' hP36, zb_zs' hP36]
    simp only [Bool.or_eq_true, Bool.and_eq_true, decide_eq_true_eq, hb]
    constructor
    · rintro (((h1 | ⟨h2, h3, h4⟩ | ⟨h5, h6⟩) | ⟨-, h7, h8⟩) | h9)
      · exact Or.inl h1
      · exact Or.inr ⟨e - 1, h3, by rw [zadj_4 w (by omega) hw.1 _ (hP36 _ h3) e (by omega)]; simp only [Bool.or_eq_true, decide_eq_true_eq]; exact Or.inl ⟨by omega, h4⟩⟩
      · exact Or.inr ⟨e + 1, h5, by rw [zadj_4 w (by omega) hw.1 _ (hP36 _ h5) e (by omega)]; simp only [Bool.or_eq_true, decide_eq_true_eq]; exact Or.inr (Or.inl ⟨trivial, h6⟩)⟩
      · exact Or.inr ⟨e - w, h8, by rw [zadj_4 w (by omega) hw.1 _ (hP36 _ h8) e (by omega)]; simp only [Bool.or_eq_true, decide_eq_true_eq]; exact Or.inr (Or.inr (Or.inl (by omega)))⟩
      · exact Or.inr ⟨w + e, h9, by rw [zadj_4 w (by omega) hw.1 _ (hP36 _ h9) e (by omega)]; simp only [Bool.or_eq_true, decide_eq_true_eq]; exact Or.inr (Or.inr (Or.inr (by omega)))⟩
    · rintro (h1 | ⟨a, ha, hz⟩)
      · exact Or.inl (Or.inl (Or.inl h1))
      · rw [zadj_4 w (by omega) hw.1 a (hP36 a ha) e (by omega)] at hz
        simp only [Bool.or_eq_true, decide_eq_true_eq] at hz
        rcases hz with ⟨rfl, q⟩ | ⟨rfl, q⟩ | rfl | rfl
        · exact Or.inl (Or.inl (Or.inr (Or.inl ⟨by omega, by simpa using ha, by simpa using q⟩)))
        · exact Or.inl (Or.inl (Or.inr (Or.inr ⟨ha, q⟩)))
        · exact Or.inl (Or.inr ⟨by omega, by omega, by rw [Nat.add_sub_cancel]; exact ha⟩)
        · exact Or.inr (by rw [Nat.add_comm w e]; exact ha)
  · rw [if_pos (show nI 8 = 8 from rfl)]
    refine ⟨_, rfl, fun e he => ?_⟩
    rw [zb_or, zb_or, zb_lsl _ (by omega), zb_lsr _ (by omega)]
    simp only [Bool.or_eq_true, Bool.and_eq_true, decide_eq_true_eq, hb]
    constructor
    · rintro (((h1 | ⟨h2, h3, h4⟩ | ⟨h5, h6⟩) | ⟨-, h7, (h1 | ⟨h2, h3, h4⟩ | ⟨h5, h6⟩)⟩) | (h1 | ⟨h2, h3, h4⟩ | ⟨h5, h6⟩))
      · exact Or.inl h1
      · exact Or.inr ⟨e - 1, h3, by rw [zadj_8 w (by omega) hw.1 _ (hP36 _ h3) e (by omega)]; simp only [Bool.or_eq_true, decide_eq_true_eq]; exact Or.inl ⟨by omega, h4⟩⟩
      · exact Or.inr ⟨e + 1, h5, by rw [zadj_8 w (by omega) hw.1 _ (hP36 _ h5) e (by omega)]; simp only [Bool.or_eq_true, decide_eq_true_eq]; exact Or.inr (Or.inl ⟨trivial, h6⟩)⟩
      · exact Or.inr ⟨e - w, h1, by rw [zadj_8 w (by omega) hw.1 _ (hP36 _ h1) e (by omega)]; simp only [Bool.or_eq_true, decide_eq_true_eq]; exact Or.inr (Or.inr (Or.inl (by omega)))⟩
      · exact Or.inr ⟨e - w - 1, h3, by rw [zadj_8 w (by omega) hw.1 _ (hP36 _ h3) e (by omega)]; simp only [Bool.or_eq_true, decide_eq_true_eq]; exact Or.inr (Or.inr (Or.inr (Or.inr (Or.inl ⟨by omega, h4⟩))))⟩
      · exact Or.inr ⟨e - w + 1, h5, by rw [zadj_8 w (by omega) hw.1 _ (hP36 _ h5) e (by omega)]; simp only [Bool.or_eq_true, decide_eq_true_eq]; exact Or.inr (Or.inr (Or.inr (Or.inr (Or.inr (Or.inl ⟨by omega, h6⟩)))))⟩
      · exact Or.inr ⟨w + e, h1, by rw [zadj_8 w (by omega) hw.1 _ (hP36 _ h1) e (by omega)]; simp only [Bool.or_eq_true, decide_eq_true_eq]; exact Or.inr (Or.inr (Or.inr (Or.inl (by omega))))⟩
      · exact Or.inr ⟨w + e - 1, h3, by rw [zadj_8 w (by omega) hw.1 _ (hP36 _ h3) e (by omega)]; simp only [Bool.or_eq_true, decide_eq_true_eq]; exact Or.inr (Or.inr (Or.inr (Or.inr (Or.inr (Or.inr (Or.inl ⟨by omega, h4⟩))))))⟩
      · exact Or.inr ⟨w + e + 1, h5, by rw [zadj_8 w (by omega) hw.1 _ (hP36 _ h5) e (by omega)]; simp only [Bool.or_eq_true, decide_eq_true_eq]; exact Or.inr (Or.inr (Or.inr (Or.inr (Or.inr (Or.inr (Or.inr ⟨by omega, h6⟩))))))⟩
    · rintro (h1 | ⟨a, ha, hz⟩)
      · exact Or.inl (Or.inl (Or.inl h1))
      · rw [zadj_8 w (by omega) hw.1 a (hP36 a ha) e (by omega)] at hz
        simp only [Bool.or_eq_true, decide_eq_true_eq] at hz
        unfold zbes
        rcases hz with ⟨q0, q⟩ | ⟨q0, q⟩ | q0 | q0 | ⟨q0, q⟩ | ⟨q0, q⟩ | ⟨q0, q⟩ | ⟨q0, q⟩
        · exact Or.inl (Or.inl (Or.inr (Or.inl (by rw [show e - 1 = a by omega]; exact ⟨by omega, ha, q⟩))))
        · exact Or.inl (Or.inl (Or.inr (Or.inr (by rw [← q0]; exact ⟨ha, q⟩))))
        · exact Or.inl (Or.inr ⟨by omega, by omega, Or.inl (by rw [show e - w = a by omega]; exact ha)⟩)
        · exact Or.inr (Or.inl (by rw [show w + e = a by omega]; exact ha))
        · exact Or.inl (Or.inr ⟨by omega, by omega, Or.inr (Or.inl (by rw [show e - w - 1 = a by omega]; exact ⟨by omega, ha, q⟩))⟩)
        · have ha0 : a ≠ 0 := fun z => q (by rw [z, Nat.zero_mod])
          exact Or.inl (Or.inr ⟨by omega, by omega, Or.inr (Or.inr (by rw [show e - w + 1 = a by omega]; exact ⟨ha, q⟩))⟩)
        · exact Or.inr (Or.inr (Or.inl (by rw [show w + e - 1 = a by omega]; exact ⟨by omega, ha, q⟩)))
        · exact Or.inr (Or.inr (Or.inr (by rw [show w + e + 1 = a by omega]; exact ⟨ha, q⟩)))
