/-! pages copied, both sides -/
theorem z_39 (a d : Nat) : (39 : Int32) * nI a + nI d = nI (39 * a + d) := by
  rw [show (39 : Int32) = nI 39 from rfl, pk_mul, nI_add]
theorem va_up_up {α : Type} (A : Nat → α) (k : Nat) (f g : α) : va_up (va_up A k f) k g = va_up A k g := funext fun j => by unfold va_up; by_cases q : j = k <;> simp [q]
theorem p_begin_L2 : ∀ (r n d : Nat) (A : Nat → Nat → Int32), d + r = 39 → r < n → ∃ f, fX8_begin_L2 n (nI d) A = some (va_up A 3 f) ∧ (∀ j, d ≤ j → j < 39 → f (j) = A 2 (j)) ∧ ∀ i, ¬ (d ≤ i ∧ i < 39) → f i = A 3 i := by
  intro r
  induction r with
  | zero =>
    intro n d A hd hn
    obtain ⟨n, rfl⟩ : ∃ m, n = m + 1 := ⟨n - 1, by omega⟩
    obtain rfl : d = 39 := by omega
    rw [fX8_begin_L2_s, if_pos (show (39 : Int32) ≤ nI 39 from nI_le (a := 39) (b := 39) (by omega) (by omega))]
    exact ⟨A 3, by rw [show va_up A 3 (A 3) = A from funext fun j => by unfold va_up; by_cases q : j = 3 <;> simp [q]], fun j h1 h2 => by omega, fun _ _ => rfl⟩
  | succ r ih =>
    intro n d A hd hn
    obtain ⟨n, rfl⟩ : ∃ m, n = m + 1 := ⟨n - 1, by omega⟩
    rw [fX8_begin_L2_s, if_neg (show ¬ (39 : Int32) ≤ nI d from nI_ge (b := 39) (by omega) (by omega)), sh_b1_s (sh_ald_n (by omega) (by omega)), sh_b1_s (sh_ast_n (by omega) (by omega)), nI_1]
    obtain ⟨f, e, h1, h2⟩ := ih n (d + 1) (va_up A 3 (upd (A 3) (d) (A 2 (d)))) (by omega) (by omega)
    rw [va_up_up] at e
    refine ⟨f, e, fun j hj hj2 => ?_, fun i hi => ?_⟩
    · rcases Nat.lt_or_ge d j with q | q
      · rw [h1 j q hj2, va_up_ne _ _ (by omega)]
      · obtain rfl : j = d := by omega
        rw [h2 _ (by omega), va_up_self, pk_us]
    · rw [h2 i (by omega), va_up_self, pk_un (by omega)]
theorem p_picture_L19 : ∀ (r n d : Nat) (A : Nat → Nat → Int32), d + r = 39 → r < n → ∃ f, fX8_picture_L19 n (nI d) A = some (va_up A 2 f) ∧ (∀ j, d ≤ j → j < 39 → f (j) = A 1 (j)) ∧ ∀ i, ¬ (d ≤ i ∧ i < 39) → f i = A 2 i := by
  intro r
  induction r with
  | zero =>
    intro n d A hd hn
    obtain ⟨n, rfl⟩ : ∃ m, n = m + 1 := ⟨n - 1, by omega⟩
    obtain rfl : d = 39 := by omega
    rw [fX8_picture_L19_s, if_pos (show (39 : Int32) ≤ nI 39 from nI_le (a := 39) (b := 39) (by omega) (by omega))]
    exact ⟨A 2, by rw [show va_up A 2 (A 2) = A from funext fun j => by unfold va_up; by_cases q : j = 2 <;> simp [q]], fun j h1 h2 => by omega, fun _ _ => rfl⟩
  | succ r ih =>
    intro n d A hd hn
    obtain ⟨n, rfl⟩ : ∃ m, n = m + 1 := ⟨n - 1, by omega⟩
    rw [fX8_picture_L19_s, if_neg (show ¬ (39 : Int32) ≤ nI d from nI_ge (b := 39) (by omega) (by omega)), sh_b1_s (sh_ald_n (by omega) (by omega)), sh_b1_s (sh_ast_n (by omega) (by omega)), nI_1]
    obtain ⟨f, e, h1, h2⟩ := ih n (d + 1) (va_up A 2 (upd (A 2) (d) (A 1 (d)))) (by omega) (by omega)
    rw [va_up_up] at e
    refine ⟨f, e, fun j hj hj2 => ?_, fun i hi => ?_⟩
    · rcases Nat.lt_or_ge d j with q | q
      · rw [h1 j q hj2, va_up_ne _ _ (by omega)]
      · obtain rfl : j = d := by omega
        rw [h2 _ (by omega), va_up_self, pk_us]
    · rw [h2 i (by omega), va_up_self, pk_un (by omega)]
theorem p_note_L51 {I : Nat → Int32} {a : Nat} (ha : a < 14) (hI : I 2 = nI a) : ∀ (r n d : Nat) (A : Nat → Nat → Int32), d + r = 39 → r < n → ∃ f, fX8_note_L51 n (nI d) I A = some (va_up A 5 f) ∧ (∀ j, d ≤ j → j < 39 → f (39 * a + j) = A 2 (j)) ∧ ∀ i, ¬ (39 * a + d ≤ i ∧ i < 39 * a + 39) → f i = A 5 i := by
  intro r
  induction r with
  | zero =>
    intro n d A hd hn
    obtain ⟨n, rfl⟩ : ∃ m, n = m + 1 := ⟨n - 1, by omega⟩
    obtain rfl : d = 39 := by omega
    rw [fX8_note_L51_s, if_pos (show (39 : Int32) ≤ nI 39 from nI_le (a := 39) (b := 39) (by omega) (by omega))]
    exact ⟨A 5, by rw [show va_up A 5 (A 5) = A from funext fun j => by unfold va_up; by_cases q : j = 5 <;> simp [q]], fun j h1 h2 => by omega, fun _ _ => rfl⟩
  | succ r ih =>
    intro n d A hd hn
    obtain ⟨n, rfl⟩ : ∃ m, n = m + 1 := ⟨n - 1, by omega⟩
    rw [fX8_note_L51_s, if_neg (show ¬ (39 : Int32) ≤ nI d from nI_ge (b := 39) (by omega) (by omega)), hI, z_39, sh_b1_s (sh_ald_n (by omega) (by omega)), sh_b1_s (sh_ast_n (by omega) (by omega)), nI_1]
    obtain ⟨f, e, h1, h2⟩ := ih n (d + 1) (va_up A 5 (upd (A 5) (39 * a + d) (A 2 (d)))) (by omega) (by omega)
    rw [va_up_up] at e
    refine ⟨f, e, fun j hj hj2 => ?_, fun i hi => ?_⟩
    · rcases Nat.lt_or_ge d j with q | q
      · rw [h1 j q hj2, va_up_ne _ _ (by omega)]
      · obtain rfl : j = d := by omega
        rw [h2 _ (by omega), va_up_self, pk_us]
    · rw [h2 i (by omega), va_up_self, pk_un (by omega)]
theorem p_undo_L27 {I : Nat → Int32} {a : Nat} (ha : a < 14) (hI : I 2 = nI a) : ∀ (r n d : Nat) (A : Nat → Nat → Int32), d + r = 39 → r < n → ∃ f, fX8_undo_L27 n (nI d) I A = some (va_up A 2 f) ∧ (∀ j, d ≤ j → j < 39 → f (j) = A 5 (39 * a + j)) ∧ ∀ i, ¬ (d ≤ i ∧ i < 39) → f i = A 2 i := by
  intro r
  induction r with
  | zero =>
    intro n d A hd hn
    obtain ⟨n, rfl⟩ : ∃ m, n = m + 1 := ⟨n - 1, by omega⟩
    obtain rfl : d = 39 := by omega
    rw [fX8_undo_L27_s, if_pos (show (39 : Int32) ≤ nI 39 from nI_le (a := 39) (b := 39) (by omega) (by omega))]
    exact ⟨A 2, by rw [show va_up A 2 (A 2) = A from funext fun j => by unfold va_up; by_cases q : j = 2 <;> simp [q]], fun j h1 h2 => by omega, fun _ _ => rfl⟩
  | succ r ih =>
    intro n d A hd hn
    obtain ⟨n, rfl⟩ : ∃ m, n = m + 1 := ⟨n - 1, by omega⟩
    rw [fX8_undo_L27_s, if_neg (show ¬ (39 : Int32) ≤ nI d from nI_ge (b := 39) (by omega) (by omega)), hI, z_39, sh_b1_s (sh_ald_n (by omega) (by omega)), sh_b1_s (sh_ast_n (by omega) (by omega)), nI_1]
    obtain ⟨f, e, h1, h2⟩ := ih n (d + 1) (va_up A 2 (upd (A 2) (d) (A 5 (39 * a + d)))) (by omega) (by omega)
    rw [va_up_up] at e
    refine ⟨f, e, fun j hj hj2 => ?_, fun i hi => ?_⟩
    · rcases Nat.lt_or_ge d j with q | q
      · rw [h1 j q hj2, va_up_ne _ _ (by omega)]
      · obtain rfl : j = d := by omega
        rw [h2 _ (by omega), va_up_self, pk_us]
    · rw [h2 i (by omega), va_up_self, pk_un (by omega)]
theorem p_keep_L26 {a : Nat} (ha : a < 2) : ∀ (r n d : Nat) (A : Nat → Nat → Int32), d + r = 39 → r < n → ∃ f, fX8_keep_L26 n (nI a) (nI d) A = some (va_up A 6 f) ∧ (∀ j, d ≤ j → j < 39 → f (39 * a + j) = A 2 (j)) ∧ ∀ i, ¬ (39 * a + d ≤ i ∧ i < 39 * a + 39) → f i = A 6 i := by
  intro r
  induction r with
  | zero =>
    intro n d A hd hn
    obtain ⟨n, rfl⟩ : ∃ m, n = m + 1 := ⟨n - 1, by omega⟩
    obtain rfl : d = 39 := by omega
    rw [fX8_keep_L26_s, if_pos (show (39 : Int32) ≤ nI 39 from nI_le (a := 39) (b := 39) (by omega) (by omega))]
    exact ⟨A 6, by rw [show va_up A 6 (A 6) = A from funext fun j => by unfold va_up; by_cases q : j = 6 <;> simp [q]], fun j h1 h2 => by omega, fun _ _ => rfl⟩
  | succ r ih =>
    intro n d A hd hn
    obtain ⟨n, rfl⟩ : ∃ m, n = m + 1 := ⟨n - 1, by omega⟩
    rw [fX8_keep_L26_s, if_neg (show ¬ (39 : Int32) ≤ nI d from nI_ge (b := 39) (by omega) (by omega)), z_39, sh_b1_s (sh_ald_n (by omega) (by omega)), sh_b1_s (sh_ast_n (by omega) (by omega)), nI_1]
    obtain ⟨f, e, h1, h2⟩ := ih n (d + 1) (va_up A 6 (upd (A 6) (39 * a + d) (A 2 (d)))) (by omega) (by omega)
    rw [va_up_up] at e
    refine ⟨f, e, fun j hj hj2 => ?_, fun i hi => ?_⟩
    · rcases Nat.lt_or_ge d j with q | q
      · rw [h1 j q hj2, va_up_ne _ _ (by omega)]
      · obtain rfl : j = d := by omega
        rw [h2 _ (by omega), va_up_self, pk_us]
    · rw [h2 i (by omega), va_up_self, pk_un (by omega)]
theorem p_again_L31 {a : Nat} (ha : a < 2) : ∀ (r n d : Nat) (A : Nat → Nat → Int32), d + r = 39 → r < n → ∃ f, fX8_again_L31 n (nI a) (nI d) A = some (va_up A 2 f) ∧ (∀ j, d ≤ j → j < 39 → f (j) = A 6 (39 * a + j)) ∧ ∀ i, ¬ (d ≤ i ∧ i < 39) → f i = A 2 i := by
  intro r
  induction r with
  | zero =>
    intro n d A hd hn
    obtain ⟨n, rfl⟩ : ∃ m, n = m + 1 := ⟨n - 1, by omega⟩
    obtain rfl : d = 39 := by omega
    rw [fX8_again_L31_s, if_pos (show (39 : Int32) ≤ nI 39 from nI_le (a := 39) (b := 39) (by omega) (by omega))]
    exact ⟨A 2, by rw [show va_up A 2 (A 2) = A from funext fun j => by unfold va_up; by_cases q : j = 2 <;> simp [q]], fun j h1 h2 => by omega, fun _ _ => rfl⟩
  | succ r ih =>
    intro n d A hd hn
    obtain ⟨n, rfl⟩ : ∃ m, n = m + 1 := ⟨n - 1, by omega⟩
    rw [fX8_again_L31_s, if_neg (show ¬ (39 : Int32) ≤ nI d from nI_ge (b := 39) (by omega) (by omega)), z_39, sh_b1_s (sh_ald_n (by omega) (by omega)), sh_b1_s (sh_ast_n (by omega) (by omega)), nI_1]
    obtain ⟨f, e, h1, h2⟩ := ih n (d + 1) (va_up A 2 (upd (A 2) (d) (A 6 (39 * a + d)))) (by omega) (by omega)
    rw [va_up_up] at e
    refine ⟨f, e, fun j hj hj2 => ?_, fun i hi => ?_⟩
    · rcases Nat.lt_or_ge d j with q | q
      · rw [h1 j q hj2, va_up_ne _ _ (by omega)]
      · obtain rfl : j = d := by omega
        rw [h2 _ (by omega), va_up_self, pk_us]
    · rw [h2 i (by omega), va_up_self, pk_un (by omega)]
theorem p_note_L11 : ∀ (r n d : Nat) (A : Nat → Nat → Int32), d + r = 507 → r < n → ∃ f, fX8_note_L11 n (nI d) A = some (va_up A 5 f) ∧ (∀ j, d ≤ j → j < 507 → f j = A 5 (j + 39)) ∧ ∀ i, ¬ (d ≤ i ∧ i < 507) → f i = A 5 i := by
  intro r
  induction r with
  | zero =>
    intro n d A hd hn
    obtain ⟨n, rfl⟩ : ∃ m, n = m + 1 := ⟨n - 1, by omega⟩
    obtain rfl : d = 507 := by omega
    rw [fX8_note_L11_s, if_pos (show (507 : Int32) ≤ nI 507 from nI_le (a := 507) (b := 507) (by omega) (by omega))]
    exact ⟨A 5, by rw [show va_up A 5 (A 5) = A from funext fun j => by unfold va_up; by_cases q : j = 5 <;> simp [q]], fun j h1 h2 => by omega, fun _ _ => rfl⟩
  | succ r ih =>
    intro n d A hd hn
    obtain ⟨n, rfl⟩ : ∃ m, n = m + 1 := ⟨n - 1, by omega⟩
    rw [fX8_note_L11_s, if_neg (show ¬ (507 : Int32) ≤ nI d from nI_ge (b := 507) (by omega) (by omega)), show nI d + 39 = nI (d + 39) from nI_add d 39, sh_b1_s (sh_ald_n (by omega) (by omega)), sh_b1_s (sh_ast_n (by omega) (by omega)), nI_1]
    obtain ⟨f, e, h1, h2⟩ := ih n (d + 1) (va_up A 5 (upd (A 5) d (A 5 (d + 39)))) (by omega) (by omega)
    rw [va_up_up] at e
    refine ⟨f, e, fun j hj hj2 => ?_, fun i hi => ?_⟩
    · rcases Nat.lt_or_ge d j with q | q
      · rw [h1 j q hj2, va_up_self, pk_un (by omega)]
      · obtain rfl : j = d := by omega
        rw [h2 _ (by omega), va_up_self, pk_us]
    · rw [h2 i (by omega), va_up_self, pk_un (by omega)]
/-! the class -/
theorem sh_cpy_n {f g : Nat → Int64} {n0 n1 a b c : Nat} (h1 : a + c ≤ n0) (h2 : b + c ≤ n1) (h3 : n0 < 2 ^ 31) (h4 : n1 < 2 ^ 31) : sh_cpy f g n0 n1 (nI a) (nI b) (nI c) = some (va_cpy f g a b c) := by
  unfold sh_cpy
  rw [nI_clamp (show a < 2 ^ 31 by omega), nI_clamp (show b < 2 ^ 31 by omega), nI_clamp (show c < 2 ^ 31 by omega), if_neg]
  rintro (q | q | q | q | q)
  · exact nI_pos (by omega) q
  · exact nI_pos (by omega) q
  · exact nI_pos (by omega) q
  · omega
  · omega
theorem p_store {sL rL : Nat → Int64} {rn x : Nat} (hx : x + 10 ≤ rn) (hr : rn < 2 ^ 31) : fX2_store sL rn rL (nI x) = some (va_cpy sL rL 0 x 10) := by
  unfold fX2_store
  rw [if_neg (nI_pos (by omega)), show Int32.ofNat rn - 10 = nI (rn - 10) from pk_sub (a := rn) (b := 10) (by omega), if_neg (nI_nlt (by omega) (by omega)), show (0 : Int32) = nI 0 from rfl, show (10 : Int32) = nI 10 from rfl, sh_b1_s (sh_cpy_n (by omega) (by omega) (by omega) (by omega))]
theorem p_load {sL rL : Nat → Int64} {rn x : Nat} (hx : x + 10 ≤ rn) (hr : rn < 2 ^ 31) : fX2_load sL rn rL (nI x) = some (va_cpy rL sL x 0 10) := by
  unfold fX2_load
  rw [if_neg (nI_pos (by omega)), show Int32.ofNat rn - 10 = nI (rn - 10) from pk_sub (a := rn) (b := 10) (by omega), if_neg (nI_nlt (by omega) (by omega)), show (0 : Int32) = nI 0 from rfl, show (10 : Int32) = nI 10 from rfl, sh_b1_s (sh_cpy_n (by omega) (by omega) (by omega) (by omega))]
theorem cpy_in {f g : Nat → Int64} {a b c i : Nat} (h1 : b ≤ i) (h2 : i < b + c) : va_cpy f g a b c i = f (a + (i - b)) := if_pos ⟨h1, h2⟩
theorem cpy_out {f g : Nat → Int64} {a b c i : Nat} (h1 : i < b ∨ b + c ≤ i) : va_cpy f g a b c i = g i := if_neg (by omega)
theorem p_copy7 {sL zL : Nat → Int64} {n : Nat} {sh : Nat → Nat} (H : Lev zL n sh) : ∃ sL2, fX2_copy sL zL = some sL2 ∧ Lev sL2 n sh := by
  unfold fX2_copy
  rw [show (0 : Int32) = nI 0 from rfl, sh_b1_s (p_store (rn := 10) (x := 0) (by omega) (by omega))]
  exact ⟨_, rfl, fun t ht => by rw [cpy_in (by omega) (by omega), show 0 + (t - 0) = t by omega]; exact H t ht⟩
/-! the book of doings -/
/-- n pages kept on both sides -/
def Bk (k w h n : Nat) (b : Nat → Int32) (o : Nat → Int64) : Prop := ∀ i, i < n → ∃ sh, Pic (fun j => b (39 * i + j)) k w h sh ∧ Lev (fun t => o (10 * i + t)) (w * h) sh
theorem p_add7 {k w h n : Nat} {sh : Nat → Nat} {b : Nat → Int32} {o sL : Nat → Int64} {I : Nat → Int32} {A : Nat → Nat → Int32} (hI : I 2 = nI n) (hn : n ≤ 14) (hb : A 5 = b) (HB : Bk k w h n b o) (HP : Pic (A 2) k w h sh) (HL : Lev sL (w * h) sh) : ∃ m o2 b2 I2, m ≤ 14 ∧ m = min (n + 1) 14 ∧ fX0_add o (nI n) sL = some (o2, nI m) ∧ fX8_note I A = some (I2, va_up A 5 b2) ∧ I2 2 = nI m ∧ (∀ j, j ≠ 2 → I2 j = I j) ∧ Bk k w h m b2 o2 := by
  unfold fX0_add fX8_note
  rw [hI]
  rcases Nat.lt_or_ge n 14 with q | q
  · rw [if_pos (show nI n < 14 from nI_lt (b := 14) q (by omega)), show nI n * 10 = nI (n * 10) from pk_mul n 10, sh_b1_s (p_store (rn := 140) (by omega) (by omega)), if_neg (show ¬ nI n = 14 from fun z => by have := (nI_eq (b := 14) (by omega) (by omega)).mp z; omega)]
    obtain ⟨f, e, h1, h2⟩ := p_note_L51 q hI 39 sh_fu 0 A (by omega) (by unfold sh_fu; omega)
    rw [nI_0] at e
    rw [sh_b1_s e, nI_1]
    refine ⟨n + 1, _, f, _, by omega, by omega, rfl, rfl, pk_us, fun j hj => pk_un hj, fun i hi => ?_⟩
    rcases Nat.lt_or_ge i n with z | z
    · obtain ⟨s, P, L⟩ := HB i z
      refine ⟨s, P.congp (fun j hj => ?_), fun t ht => ?_⟩
      · show b (39 * i + j) = f (39 * i + j)
        rw [h2 _ (by omega), hb]
      · show va_cpy sL o 0 (n * 10) 10 (10 * i + t) = _
        rw [cpy_out (by omega)]
        exact L t ht
    · obtain rfl : i = n := by omega
      refine ⟨sh, HP.congp (fun j hj => ?_), fun t ht => ?_⟩
      · show A 2 j = f (39 * i + j)
        rw [h1 j (by omega) hj]
      · show va_cpy sL o 0 (i * 10) 10 (10 * i + t) = _
        rw [cpy_in (by omega) (by omega), show 0 + (10 * i + t - i * 10) = t by omega]
        exact HL t ht
  · obtain rfl : n = 14 := by omega
    rw [if_neg (show ¬ nI 14 < 14 from nI_nlt (a := 14) (b := 14) (by omega) (by omega)), if_pos (show nI 14 = 14 from rfl)]
    rw [show sh_cpy o o 140 140 10 0 ((140 : Int32) - 10) = some (va_cpy o o 10 0 130) from sh_cpy_n (n0 := 140) (n1 := 140) (a := 10) (b := 0) (c := 130) (by omega) (by omega) (by omega) (by omega), sh_b1_s rfl]
    rw [show fX2_store sL 140 (va_cpy o o 10 0 130) (13 * 10) = some (va_cpy sL (va_cpy o o 10 0 130) 0 130 10) from p_store (rn := 140) (x := 130) (by omega) (by omega), sh_b1_s rfl]
    obtain ⟨f0, e0, g1, g2⟩ := p_note_L11 507 sh_fu 0 A (by omega) (by unfold sh_fu; omega)
    rw [nI_0] at e0
    obtain ⟨f, e, h1, h2⟩ := p_note_L51 (I := upd I 2 (nI 14 - 1)) (a := 13) (by omega) pk_us 39 sh_fu 0 (va_up A 5 f0) (by omega) (by unfold sh_fu; omega)
    rw [nI_0, va_up_up] at e
    rw [sh_b1_s e0, sh_b1_s e]
    refine ⟨14, _, f, _, by omega, by omega, rfl, rfl, pk_us, fun j hj => by rw [pk_un hj, pk_un hj], fun i hi => ?_⟩
    rcases Nat.lt_or_ge i 13 with z | z
    · obtain ⟨s, P, L⟩ := HB (i + 1) (by omega)
      refine ⟨s, P.congp (fun j hj => ?_), fun t ht => ?_⟩
      · show b (39 * (i + 1) + j) = f (39 * i + j)
        rw [h2 _ (by omega), va_up_self, g1 _ (by omega) (by omega), hb, show 39 * i + j + 39 = 39 * (i + 1) + j by omega]
      · show va_cpy sL (va_cpy o o 10 0 130) 0 130 10 (10 * i + t) = _
        rw [cpy_out (by omega), cpy_in (by omega) (by omega), show 10 + (10 * i + t - 0) = 10 * (i + 1) + t by omega]
        exact L t ht
    · obtain rfl : i = 13 := by omega
      refine ⟨sh, HP.congp (fun j hj => ?_), fun t ht => ?_⟩
      · show A 2 j = f (39 * 13 + j)
        rw [h1 j (by omega) hj, va_up_ne _ _ (by omega)]
      · show va_cpy sL (va_cpy o o 10 0 130) 0 130 10 (10 * 13 + t) = _
        rw [cpy_in (by omega) (by omega), show 0 + (10 * 13 + t - 130) = t by omega]
        exact HL t ht
