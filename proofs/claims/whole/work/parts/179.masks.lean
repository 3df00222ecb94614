/-! dots that fade: sums over masks -/
theorem mk_and1 : ∀ w, w < 6 → ∀ a, a < 2 ^ w → ∀ b, b < 2 ^ w → (2 ^ w + a) &&& (2 ^ w + b) = 2 ^ w + (a &&& b) := by decide +kernel
theorem mk_and2 : ∀ w, w < 6 → ∀ a, a < 2 ^ w → ∀ b, b < 2 ^ w → (2 ^ w + a) &&& b = a &&& b := by decide +kernel
theorem mk_and3 : ∀ w, w < 6 → ∀ a, a < 2 ^ w → ∀ b, b < 2 ^ w → a &&& (2 ^ w + b) = a &&& b := by decide +kernel
theorem mk_pc1 : ∀ w, w < 6 → ∀ a, a < 2 ^ w → zpc (2 ^ w + a) = zpc a + 1 := by decide +kernel
theorem mk_pcw : ∀ w, w < 7 → ∀ a, a < 2 ^ w → zpc a ≤ w := by decide +kernel
theorem mk_pcm : ∀ a, a < 64 → ∀ b, b < 64 → a &&& b = a → zpc a ≤ zpc b := by decide +kernel
theorem mk_next : ∀ m, m < 64 → ∀ s, s < 64 → ∀ j, j < s → (s &&& m = s → j &&& m = j → j ≤ (s - 1) &&& m) := by decide +kernel
theorem mk_nextm : ∀ m, m < 64 → ∀ s, s < 64 → 0 < s → ((s - 1) &&& m < s ∧ ((s - 1) &&& m) &&& m = (s - 1) &&& m) := by decide +kernel
theorem mk_le : ∀ m, m < 64 → ∀ s, s < 64 → s &&& m = s → s ≤ m := by decide +kernel
theorem fb_sm_mul (c : Nat) (f : Nat → Nat) : ∀ n, fb_sm (fun k => c * f k) n = c * fb_sm f n
  | 0 => rfl
  | n + 1 => by rw [fb_sm_succ, fb_sm_mul c f n, fb_sm_succ, Nat.mul_add]
/-- what the reference adds for a mask -/
def z8t (G : Nat → Nat) (x y w m : Nat) : Nat := G m * (x ^ zpc m * y ^ (w - zpc m))
/-- what the class adds for a mask of those that may fade -/
def z7t (G : Nat → Nat) (x y c m : Nat) : Nat := if m &&& c = m then G m * (x ^ zpc m * y ^ (zpc c - zpc m)) else 0
theorem z8_split (G : Nat → Nat) (x y : Nat) {w : Nat} (hw : w < 6) : fb_sm (z8t G x y (w + 1)) (2 ^ (w + 1)) = y * fb_sm (z8t G x y w) (2 ^ w) + x * fb_sm (z8t (fun m => G (2 ^ w + m)) x y w) (2 ^ w) := by
  rw [show 2 ^ (w + 1) = 2 ^ w + 2 ^ w from by rw [Nat.pow_succ]; omega, fb_sm_split, ← fb_sm_mul, ← fb_sm_mul]
  congr 1
  · refine fb_sm_cong (fun m hm => ?_)
    have hp := mk_pcw w (by omega) m hm
    unfold z8t
    rw [show w + 1 - zpc m = (w - zpc m) + 1 by omega, Nat.pow_succ]
    simp only [Nat.mul_comm, Nat.mul_left_comm, Nat.mul_assoc]
  · refine fb_sm_cong (fun m hm => ?_)
    have hp := mk_pcw w (by omega) m hm
    unfold z8t
    rw [mk_pc1 w hw m hm, show w + 1 - (zpc m + 1) = w - zpc m by omega, Nat.pow_succ]
    simp only [Nat.mul_comm, Nat.mul_left_comm, Nat.mul_assoc]
theorem z7_hi (G : Nat → Nat) (x y : Nat) {w c : Nat} (hw : w < 6) (hc : c < 2 ^ w) : fb_sm (z7t G x y (2 ^ w + c)) (2 ^ (w + 1)) = y * fb_sm (z7t G x y c) (2 ^ w) + x * fb_sm (z7t (fun m => G (2 ^ w + m)) x y c) (2 ^ w) := by
  have h64 : 2 ^ w ≤ 32 := Nat.pow_le_pow_right (n := 2) (by decide) (show w ≤ 5 by omega)
  rw [show 2 ^ (w + 1) = 2 ^ w + 2 ^ w from by rw [Nat.pow_succ]; omega, fb_sm_split, ← fb_sm_mul, ← fb_sm_mul]
  congr 1
  · refine fb_sm_cong (fun m hm => ?_)
    unfold z7t
    rw [mk_and3 w hw m hm c hc, mk_pc1 w hw c hc]
    by_cases q : m &&& c = m
    · have hp := mk_pcm m (by omega) c (by omega) q
      rw [if_pos q, if_pos q, show zpc c + 1 - zpc m = (zpc c - zpc m) + 1 by omega, Nat.pow_succ]
      simp only [Nat.mul_comm, Nat.mul_left_comm, Nat.mul_assoc]
    · rw [if_neg q, if_neg q, Nat.mul_zero]
  · refine fb_sm_cong (fun m hm => ?_)
    unfold z7t
    rw [mk_and1 w hw m hm c hc, mk_pc1 w hw c hc, mk_pc1 w hw m hm]
    by_cases q : m &&& c = m
    · rw [if_pos q, if_pos (by rw [q]), show zpc c + 1 - (zpc m + 1) = zpc c - zpc m by omega, Nat.pow_succ]
      simp only [Nat.mul_comm, Nat.mul_left_comm, Nat.mul_assoc]
    · rw [if_neg q, if_neg (by omega), Nat.mul_zero]
theorem z7_lo (G : Nat → Nat) (x y : Nat) {w c : Nat} (hw : w < 6) (hc : c < 2 ^ w) : fb_sm (z7t G x y c) (2 ^ (w + 1)) = fb_sm (z7t G x y c) (2 ^ w) := by
  rw [show 2 ^ (w + 1) = 2 ^ w + 2 ^ w from by rw [Nat.pow_succ]; omega, fb_sm_split, show fb_sm (fun k => z7t G x y c (2 ^ w + k)) (2 ^ w) = 0 from ?_, Nat.add_zero]
  rw [fb_sm_cong (g := fun _ => 0) (fun m hm => ?_), fb_sm_const, Nat.mul_zero]
  unfold z7t
  have h1 := mk_and2 w hw m hm c hc
  have h2 : m &&& c ≤ m := Nat.and_le_left
  rw [if_neg (by omega)]
/-- those that cannot fade cancel -/
theorem z78 {x y : Nat} (hxy : x + y = 10) : ∀ (w : Nat), w < 7 → ∀ (c : Nat) (G : Nat → Nat), c < 2 ^ w → (∀ m, m < 2 ^ w → G m = G (m &&& c)) → fb_sm (z8t G x y w) (2 ^ w) = fb_sm (z7t G x y c) (2 ^ w) * 10 ^ (w - zpc c) := by
  intro w
  induction w with
  | zero =>
    intro _ c G hc hG
    obtain rfl : c = 0 := by omega
    show fb_sm _ 1 = fb_sm _ 1 * 10 ^ (0 - zpc 0)
    rw [fb_sm_succ, fb_sm_succ]
    show 0 + G 0 * (x ^ 0 * y ^ 0) = (0 + (if 0 &&& 0 = 0 then G 0 * (x ^ 0 * y ^ 0) else 0)) * 10 ^ 0
    simp
  | succ w ih =>
    intro hw c G hc hG
    have hp2 : 2 ^ (w + 1) = 2 ^ w + 2 ^ w := by rw [Nat.pow_succ]; omega
    rw [z8_split G x y (by omega)]
    rcases Nat.lt_or_ge c (2 ^ w) with q | q
    · have hpc := mk_pcw w (by omega) c q
      have e1 := ih (by omega) c G q (fun m hm => hG m (by omega))
      have e2 : fb_sm (z8t (fun m => G (2 ^ w + m)) x y w) (2 ^ w) = fb_sm (z8t G x y w) (2 ^ w) := fb_sm_cong (fun m hm => by
        show G (2 ^ w + m) * _ = G m * _
        rw [hG (2 ^ w + m) (by omega), mk_and2 w (by omega) m hm c q, ← hG m (by omega)])
      rw [e2, z7_lo G x y (by omega) q, e1, ← Nat.add_mul, Nat.add_comm y x, hxy, show w + 1 - zpc c = (w - zpc c) + 1 by omega, Nat.pow_succ]
      simp only [Nat.mul_comm, Nat.mul_left_comm, Nat.mul_assoc]
    · obtain ⟨c', rfl⟩ : ∃ c', c = 2 ^ w + c' := ⟨c - 2 ^ w, by omega⟩
      have hc' : c' < 2 ^ w := by omega
      have e1 := ih (by omega) c' G hc' (fun m hm => by rw [hG m (by omega), mk_and3 w (by omega) m hm c' hc'])
      have e2 := ih (by omega) c' (fun m => G (2 ^ w + m)) hc' (fun m hm => by
        show G (2 ^ w + m) = G (2 ^ w + (m &&& c'))
        rw [hG (2 ^ w + m) (by omega), mk_and1 w (by omega) m hm c' hc'])
      rw [e1, e2, z7_hi G x y (by omega) hc', mk_pc1 w (by omega) c' hc', show w + 1 - (zpc c' + 1) = w - zpc c' by omega, Nat.add_mul, Nat.mul_assoc, Nat.mul_assoc]
theorem z8_one : ∀ w, w < 7 → ∀ x, x < 11 → fb_sm (z8t (fun _ => 1) x (10 - x) w) (2 ^ w) = 10 ^ w := by decide +kernel
theorem z8_le {G : Nat → Nat} (hG : ∀ m, G m ≤ 1) {w x : Nat} (hw : w < 7) (hx : x < 11) : fb_sm (z8t G x (10 - x) w) (2 ^ w) ≤ 10 ^ w := by
  rw [← z8_one w hw x hx]
  refine fb_sm_le (fun m _ => ?_)
  unfold z8t
  exact Nat.mul_le_mul_right _ (hG m)
/-- one mask of the class, and those less than it -/
theorem z7_step (G : Nat → Nat) (x y : Nat) {c s : Nat} (hc : c < 64) (hs : s < 64) (h0 : 0 < s) (hsc : s &&& c = s) : fb_sm (z7t G x y c) (s + 1) = fb_sm (z7t G x y c) (((s - 1) &&& c) + 1) + z7t G x y c s := by
  obtain ⟨h1, h2⟩ := mk_nextm c hc s hs h0
  have hn : ∀ j, j < s → j &&& c = j → j ≤ (s - 1) &&& c := fun j hj => mk_next c hc s hs j hj hsc
  generalize (s - 1) &&& c = j at *
  rw [fb_sm_succ]
  congr 1
  have e := fb_sm_split (z7t G x y c) (j + 1) (s - (j + 1))
  rw [show j + 1 + (s - (j + 1)) = s by omega] at e
  rw [e, fb_sm_cong (f := fun k => z7t G x y c (j + 1 + k)) (g := fun _ => 0) (fun m hm => ?_), fb_sm_const, Nat.mul_zero, Nat.add_zero]
  unfold z7t
  exact if_neg (fun z => by have := hn (j + 1 + m) (by omega) z; omega)
theorem z7_top (G : Nat → Nat) (x y : Nat) {c w : Nat} (hw : w < 7) (hc : c < 2 ^ w) : fb_sm (z7t G x y c) (2 ^ w) = fb_sm (z7t G x y c) (c + 1) := by
  have h64 : 2 ^ w ≤ 64 := Nat.pow_le_pow_right (n := 2) (by decide) (show w ≤ 6 by omega)
  have e := fb_sm_split (z7t G x y c) (c + 1) (2 ^ w - (c + 1))
  rw [show c + 1 + (2 ^ w - (c + 1)) = 2 ^ w by omega] at e
  rw [e, fb_sm_cong (f := fun k => z7t G x y c (c + 1 + k)) (g := fun _ => 0) (fun m hm => ?_), fb_sm_const, Nat.mul_zero, Nat.add_zero]
  unfold z7t
  exact if_neg (fun z => by have := mk_le c (by omega) (c + 1 + m) (by omega) z; omega)
theorem zfr_mul {a b c : Nat} (hc : 0 < c) (x : Int32) : zfr (a * c) (b * c) x = zfr a b x := by
  unfold zfr
  rw [Nat.gcd_mul_right, Nat.mul_div_mul_right _ _ hc, Nat.mul_div_mul_right _ _ hc]
theorem mk_pow7 : ∀ x, x < 11 → ∀ n, n < 7 → fX7_power (nI x) (nI n) = some (nI (x ^ n)) := by decide +kernel
theorem mk_pow8 : ∀ x, x < 11 → ∀ n, n < 7 → fX8_power (nI x) (nI n) = some (nI (x ^ n)) := by decide +kernel
