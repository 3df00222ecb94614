/-! dots that fade: sets of a row -/
/-- of a row those whose column is so -/
def gs (w h r : Nat) (P : Nat → Bool) (i : Nat) : Bool := decide (i < w * h) && (decide (i / w = r) && P (i % w))
theorem gs_iff {w h r i : Nat} {P : Nat → Bool} : gs w h r P i = true ↔ i < w * h ∧ i / w = r ∧ P (i % w) = true := by
  unfold gs
  rw [Bool.and_eq_true, Bool.and_eq_true, decide_eq_true_eq, decide_eq_true_eq]
theorem gs_lt {w h r i : Nat} {P : Nat → Bool} (hi : gs w h r P i = true) : i < w * h := (gs_iff.mp hi).1
theorem gs_ix {w h r c : Nat} (hr : r < h) (hc : c < w) : w * r + c < w * h ∧ (w * r + c) / w = r ∧ (w * r + c) % w = c := by
  have h1 : w * (r + 1) ≤ w * h := Nat.mul_le_mul_left w hr
  rw [Nat.mul_succ] at h1
  refine ⟨by omega, ?_, ?_⟩
  · rw [Nat.mul_add_div (by omega), Nat.div_eq_of_lt hc, Nat.add_zero]
  · rw [Nat.mul_add_mod, Nat.mod_eq_of_lt hc]
theorem gs_at {w h r c : Nat} (hr : r < h) (hc : c < w) (P : Nat → Bool) : gs w h r P (w * r + c) = P c := by
  obtain ⟨h1, h2, h3⟩ := gs_ix hr hc
  unfold gs
  rw [decide_eq_true h1, h2, h3, decide_eq_true rfl]
  rfl
theorem gs_ct {w h r : Nat} (hr : r < h) (h36 : w * h ≤ 36) (P : Nat → Bool) : fb_ct (gs w h r P) 36 = fb_ct P w := by
  have h1 : w * (r + 1) ≤ w * h := Nat.mul_le_mul_left w hr
  rw [Nat.mul_succ] at h1
  rcases Nat.eq_zero_or_pos w with hw | hw
  · subst hw
    show _ = 0
    exact fb_ct_zero.mpr (fun i _ => by
      cases q : gs 0 h r P i with
      | false => rfl
      | true => have := gs_lt q; omega)
  have e : fb_ct (gs w h r P) (w * r + (w + (36 - (w * r + w)))) = _ := fb_ct_split _ (w * r) _
  rw [show w * r + (w + (36 - (w * r + w))) = 36 by omega, fb_ct_split] at e
  have z1 : fb_ct (gs w h r P) (w * r) = 0 := fb_ct_zero.mpr (fun i hi => by
    cases q : gs w h r P i with
    | false => rfl
    | true =>
      have := (gs_iff.mp q).2.1
      have := Nat.div_lt_of_lt_mul hi
      omega)
  have z2 : fb_ct (fun k => gs w h r P (w * r + (w + k))) (36 - (w * r + w)) = 0 := fb_ct_zero.mpr (fun i hi => by
    cases q : gs w h r P (w * r + (w + i)) with
    | false => rfl
    | true =>
      have := (gs_iff.mp q).2.1
      rw [show w * r + (w + i) = w * (r + 1) + i by rw [Nat.mul_succ]; omega, Nat.mul_add_div hw] at this
      exact absurd this (Nat.ne_of_gt (Nat.lt_of_lt_of_le (Nat.lt_succ_self r) (Nat.le_add_right _ _))))
  have z3 : fb_ct (fun k => gs w h r P (w * r + k)) w = fb_ct P w := fb_ct_cong (fun i hi => gs_at hr hi P)
  omega
theorem gs_num {w h r m : Nat} (hw : w ≤ 6) (hr : r < h) (h36 : w * h ≤ 36) (hm : m < 2 ^ w) : lN (m * 2 ^ (w * r)) = zs (gs w h r (fun c => m.testBit c)) := by
  refine zb_ext (fun i hi => ?_)
  rw [zb_zs' (fun i hi => Nat.lt_of_lt_of_le (gs_lt hi) h36), zb_lN i hi, Nat.testBit_mul_two_pow]
  apply Bool.eq_iff_iff.mpr
  rw [gs_iff, Bool.and_eq_true, decide_eq_true_eq]
  constructor
  · rintro ⟨h1, h2⟩
    have hlt : i - w * r < w := by
      rcases Nat.lt_or_ge (i - w * r) w with q | q
      · exact q
      · rw [Nat.testBit_lt_two_pow (Nat.lt_of_lt_of_le hm (Nat.pow_le_pow_right (by decide) q))] at h2
        exact nomatch h2
    obtain ⟨g1, g2, g3⟩ := gs_ix hr hlt
    rw [show w * r + (i - w * r) = i by omega] at g1 g2 g3
    exact ⟨g1, g2, by rw [g3]; exact h2⟩
  · rintro ⟨h1, h2, h3⟩
    have e := Nat.div_add_mod i w
    rw [h2] at e
    refine ⟨by omega, ?_⟩
    rw [show i - w * r = i % w by omega]
    exact h3
theorem mk_mask (P : Nat → Bool) : ∀ w, ∃ c, c < 2 ^ w ∧ ∀ j, j < w → c.testBit j = P j := by
  intro w
  induction w with
  | zero => exact ⟨0, by decide, fun j hj => absurd hj (Nat.not_lt_zero j)⟩
  | succ w ih =>
    obtain ⟨c, hc, h⟩ := ih
    have hp2 : 2 ^ (w + 1) = 2 ^ w + 2 ^ w := by rw [Nat.pow_succ]; omega
    cases q : P w with
    | false =>
      refine ⟨c, by omega, fun j hj => ?_⟩
      by_cases z : j = w
      · rw [z, q, Nat.testBit_lt_two_pow hc]
      · exact h j (by omega)
    | true =>
      refine ⟨2 ^ w * 1 + c, by omega, fun j hj => ?_⟩
      rw [Nat.testBit_two_pow_mul_add _ hc]
      by_cases z : j = w
      · rw [z, q, if_neg (by omega), Nat.sub_self]; rfl
      · rw [if_pos (by omega)]; exact h j (by omega)
theorem mk_shift {k s c : Nat} (h0 : 0 < s) : (s * 2 ^ k - 1) &&& (c * 2 ^ k) = ((s - 1) &&& c) * 2 ^ k := by
  obtain ⟨s, rfl⟩ : ∃ t, s = t + 1 := ⟨s - 1, by omega⟩
  have hp : 0 < 2 ^ k := Nat.pow_pos (by decide)
  rw [show (s + 1) * 2 ^ k - 1 = 2 ^ k * s + (2 ^ k - 1) from by rw [Nat.add_mul, Nat.mul_comm s]; omega]
  apply Nat.eq_of_testBit_eq
  intro i
  rw [Nat.testBit_and, Nat.testBit_two_pow_mul_add _ (by omega), Nat.testBit_mul_two_pow, Nat.testBit_mul_two_pow, Nat.testBit_and, Nat.add_sub_cancel]
  by_cases q : k ≤ i
  · rw [if_neg (by omega), decide_eq_true q]; simp
  · rw [decide_eq_false q]; simp
theorem mk_ctw : ∀ w, w < 7 → ∀ s, s < 2 ^ w → fb_ct (fun i => s.testBit i) w = zpc s := by decide +kernel
theorem mk_ctd : ∀ w, w < 7 → ∀ c, c < 2 ^ w → ∀ s, s < 2 ^ w → s &&& c = s → fb_ct (fun i => c.testBit i && !s.testBit i) w = zpc c - zpc s := by decide +kernel
theorem gs_not {w h r : Nat} {P Q : Nat → Bool} (i : Nat) : (gs w h r P i && !gs w h r Q i) = gs w h r (fun c => P c && !Q c) i := by
  unfold gs
  cases decide (i < w * h) <;> cases decide (i / w = r) <;> simp
theorem gs_row {w h r : Nat} {U : Nat → Bool} (hU : ∀ i, U i = true → i < w * h) {c : Nat} (hw : 0 < w) (hc : ∀ j, j < w → c.testBit j = U (w * r + j)) (i : Nat) : (U i && (decide (i < w * h) && decide (i / w = r))) = gs w h r (fun j => c.testBit j) i := by
  unfold gs
  by_cases q : i / w = r
  · have e := Nat.div_add_mod i w
    rw [q] at e
    show (U i && (decide (i < w * h) && decide (i / w = r))) = (decide (i < w * h) && (decide (i / w = r) && c.testBit (i % w)))
    rw [hc _ (Nat.mod_lt _ hw), e, decide_eq_true q]
    cases decide (i < w * h) <;> cases U i <;> rfl
  · rw [decide_eq_false q]; simp
theorem gs_mask {w h r : Nat} {U : Nat → Bool} {c m : Nat} (hw : 0 < w) (hc : ∀ j, j < w → c.testBit j = U (w * r + j)) (i : Nat) : (U i && !gs w h r (fun j => m.testBit j) i) = (U i && !gs w h r (fun j => (m &&& c).testBit j) i) := by
  unfold gs
  by_cases q : i / w = r
  · have e := Nat.div_add_mod i w
    rw [q] at e
    show (U i && !(decide (i < w * h) && (decide (i / w = r) && m.testBit (i % w)))) = (U i && !(decide (i < w * h) && (decide (i / w = r) && (m &&& c).testBit (i % w))))
    rw [Nat.testBit_and, hc _ (Nat.mod_lt _ hw), e, decide_eq_true q]
    cases decide (i < w * h) <;> cases U i <;> simp
  · rw [decide_eq_false q]; simp
/-- is it so with these gone -/
noncomputable def zG (k w h r v : Nat) (U : Nat → Bool) (m : Nat) : Nat := if v ≤ zcnt k w (fun i => U i && !gs w h r (fun j => m.testBit j) i) then 1 else 0
theorem zG_le (k w h r v : Nat) (U : Nat → Bool) (m : Nat) : zG k w h r v U m ≤ 1 := by unfold zG; split <;> omega
theorem zG_mask {k w h r v : Nat} {U : Nat → Bool} {c : Nat} (hw : 0 < w) (hc : ∀ j, j < w → c.testBit j = U (w * r + j)) (m : Nat) : zG k w h r v U m = zG k w h r v U (m &&& c) := by
  unfold zG
  rw [zcnt_cong (fun i => gs_mask hw hc i)]
theorem zcnt_le (k w : Nat) (S : Nat → Bool) : zcnt k w S ≤ 36 := fb_ct_le _ _
theorem z7t_in {G : Nat → Nat} {x y c s : Nat} (h : s &&& c = s) : z7t G x y c s = G s * (x ^ zpc s * y ^ (zpc c - zpc s)) := if_pos h
theorem p_fadedOut_L {I : Nat → Int32} {J : Nat → Int64} {p : Nat → Int32} {sL : Nat → Int64} {k w h : Nat} {sh : Nat → Nat} (H : Sys p (I 1) (I 2) (I 3) (J 0) (J 1) (J 2) sL k w h sh) {U : Nat → Bool} (hU : ∀ i, U i = true → i < w * h) {r : Nat} (hr : r < h) {v x c : Nat} (hv : v ≤ 36) (hx : x ≤ 10) (hc : c < 2 ^ w) : ∀ (s n a q : Nat), s &&& c = s → q + s ≤ 63 → s < n → s < 2 ^ w → fX7_fadedOut_L9 n (zs U) (zs (gs w h r (fun j => c.testBit j))) (nI v) (nI x) (nI a) (zs (gs w h r (fun j => s.testBit j))) (nI q) I J = some (nI (a + fb_sm (z7t (zG k w h r v U) x (10 - x) c) (s + 1))) := by
  have hw := H.1.ww
  have h36 := H.1.n36
  have h64 : 2 ^ w ≤ 64 := sm_pow64 hw.2
  have hk30 : w * r ≤ 30 := by
    have h1 : w * (r + 1) ≤ w * h := Nat.mul_le_mul_left w hr
    have h2 : w * r ≤ 6 * r := Nat.mul_le_mul_right r hw.2
    have := H.1.hh
    omega
  have hbig : ∀ m, m < 2 ^ w → m * 2 ^ (w * r) < 2 ^ 63 := fun m hm => by
    have h1 : 2 ^ (w * r) ≤ 2 ^ 30 := Nat.pow_le_pow_right (by decide) hk30
    have h2 : m * 2 ^ (w * r) ≤ 64 * 2 ^ 30 := Nat.mul_le_mul (by omega) h1
    omega
  intro s
  induction s using Nat.strongRecOn with
  | ind s ih =>
    intro n a q hsc hq hn hs
    obtain ⟨n, rfl⟩ : ∃ m, n = m + 1 := ⟨n - 1, by omega⟩
    have hz0 : zs (gs w h r (fun j => s.testBit j)) = 0 ↔ s = 0 := by
      rw [← gs_num hw.2 hr h36 hs, show (0 : Int64) = lN 0 from rfl, lN_injI (hbig s hs) (by decide)]
      constructor
      · intro z
        rcases Nat.mul_eq_zero.mp z with z | z
        · exact z
        · have := Nat.pow_pos (a := 2) (n := w * r) (by decide)
          omega
      · rintro rfl; exact Nat.zero_mul _
    have hnx : 0 < s → (zs (gs w h r (fun j => s.testBit j)) - 1) &&& zs (gs w h r (fun j => c.testBit j)) = zs (gs w h r (fun j => ((s - 1) &&& c).testBit j)) := fun h0 => by
      have hlt : (s - 1) &&& c < 2 ^ w := Nat.lt_of_le_of_lt Nat.and_le_right hc
      have hp := Nat.pow_pos (a := 2) (n := w * r) (by decide)
      have h1 : 1 ≤ s * 2 ^ (w * r) := Nat.mul_pos h0 hp
      rw [← gs_num hw.2 hr h36 hs, ← gs_num hw.2 hr h36 hc, ← gs_num hw.2 hr h36 hlt, show (1 : Int64) = lN 1 from rfl, lN_sub h1, fb_andL, mk_shift h0]
    have hfin : ∀ a', s = 0 → a' = a + z7t (zG k w h r v U) x (10 - x) c s → nI a' = nI (a + fb_sm (z7t (zG k w h r v U) x (10 - x) c) (s + 1)) := fun a' z e => by
      subst z
      rw [e, fb_sm_succ]
      show _ = nI (a + (0 + _))
      rw [Nat.zero_add]
    have hgo : ∀ a', 0 < s → a' = a + z7t (zG k w h r v U) x (10 - x) c s → fX7_fadedOut_L9 n (zs U) (zs (gs w h r (fun j => c.testBit j))) (nI v) (nI x) (nI a') (zs (gs w h r (fun j => ((s - 1) &&& c).testBit j))) (nI (q + 1)) I J = some (nI (a + fb_sm (z7t (zG k w h r v U) x (10 - x) c) (s + 1))) := fun a' h0 e => by
      obtain ⟨g1, g2⟩ := mk_nextm c (by omega) s (by omega) h0
      rw [z7_step (zG k w h r v U) x (10 - x) (by omega) (by omega) h0 hsc]
      have := ih ((s - 1) &&& c) g1 n a' (q + 1) g2 (by omega) (by omega) (by omega)
      rw [this, e]
      congr 2
      omega
    unfold fX1_way at *
    rw [fX7_fadedOut_L9_s, if_neg (show ¬ (64 : Int32) ≤ nI q from nI_ge (b := 64) (by omega) (by omega))]
    unfold fX1_way
    rw [sh_b1_s rfl, zs_not, H.2.1.1, sh_b1_s (p_countParts H.2.1 H.1.kk (fun i hi => by rw [Bool.and_eq_true] at hi; exact hU i hi.1))]
    have hcl := zcnt_le k w (fun i => U i && !gs w h r (fun j => s.testBit j) i)
    by_cases z : v ≤ zcnt k w (fun i => U i && !gs w h r (fun j => s.testBit j) i)
    · have ht : z7t (zG k w h r v U) x (10 - x) c s = x ^ zpc s * (10 - x) ^ (zpc c - zpc s) := by
        rw [z7t_in hsc, show zG k w h r v U s = 1 from if_pos z, Nat.one_mul]
      have hp1 := mk_pcw w (by omega) s hs
      have hp2 := mk_pcw w (by omega) c hc
      rw [if_neg (nI_nlt z (by omega)), sh_b1_s (p_bcs _), gs_ct hr h36, mk_ctw w (by omega) s hs, sh_b1_s (mk_pow7 x (by omega) _ (by omega)), zs_not, sh_b1_s (p_bcs _), show (fun i => gs w h r (fun j => c.testBit j) i && !gs w h r (fun j => s.testBit j) i) = gs w h r (fun j => c.testBit j && !s.testBit j) from funext fun i => gs_not i, gs_ct hr h36, mk_ctd w (by omega) c hc s hs hsc, show (10 : Int32) - nI x = nI (10 - x) from pk_sub (a := 10) hx, sh_b1_s (mk_pow7 (10 - x) (by omega) _ (by omega)), pk_mul, nI_add, ← ht, nI_1]
      by_cases y : s = 0
      · rw [if_pos (hz0.mpr y), hfin _ y rfl]
      · rw [if_neg (fun e => y (hz0.mp e)), hnx (by omega)]
        exact hgo _ (by omega) rfl
    · have ht : z7t (zG k w h r v U) x (10 - x) c s = 0 := by
        rw [z7t_in hsc, show zG k w h r v U s = 0 from if_neg z, Nat.zero_mul]
      rw [if_pos (nI_lt (by omega) (by omega)), nI_1]
      by_cases y : s = 0
      · rw [if_pos (hz0.mpr y), hfin a y (by omega)]
      · rw [if_neg (fun e => y (hz0.mp e)), hnx (by omega)]
        exact hgo a (by omega) (by omega)
