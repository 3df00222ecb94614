/-! dots that fade: the reference -/
def zfd (w r m : Nat) (sh : Nat → Nat) (c d : Nat) : Nat := if d / w = r ∧ d % w < c ∧ m.testBit (d % w) = true then 0 else sh d
theorem zfd_0 (w r m : Nat) (sh : Nat → Nat) : zfd w r m sh 0 = sh := funext fun d => if_neg (by omega)
theorem zfd_n {w r m : Nat} {sh : Nat → Nat} {c d : Nat} (h : ¬ (d / w = r ∧ d % w = c ∧ m.testBit (d % w) = true)) : zfd w r m sh (c + 1) d = zfd w r m sh c d := by
  unfold zfd
  by_cases q : d / w = r ∧ d % w < c ∧ m.testBit (d % w) = true
  · rw [if_pos q, if_pos ⟨q.1, by omega, q.2.2⟩]
  · rw [if_neg q, if_neg (fun z => q ⟨z.1, by
      rcases Nat.lt_or_ge (d % w) c with y | y
      · exact y
      · exact absurd ⟨z.1, by omega, z.2.2⟩ h, z.2.2⟩)]
theorem zfd_up {w h r m : Nat} {sh : Nat → Nat} (hw : 0 < w) {t : Nat} (ht : 1 ≤ t) (i : Nat) : up (w * h) (zfd w r m sh w) t i = (up (w * h) sh t i && !gs w h r (fun j => m.testBit j) i) := by
  apply Bool.eq_iff_iff.mpr
  rw [Bool.and_eq_true, Bool.not_eq_true', ← Bool.not_eq_true, gs_iff]
  have hm := Nat.mod_lt i hw
  unfold up zfd
  rw [Bool.and_eq_true, decide_eq_true_eq, decide_eq_true_eq, Bool.and_eq_true, decide_eq_true_eq, decide_eq_true_eq]
  by_cases q : i / w = r ∧ i % w < w ∧ m.testBit (i % w) = true
  · rw [if_pos q]
    exact ⟨fun z => by omega, fun z => absurd ⟨z.1.1, q.1, q.2.2⟩ z.2⟩
  · rw [if_neg q]
    exact ⟨fun z => ⟨z, fun y => q ⟨y.2.1, hm, y.2.2⟩⟩, fun z => z.1⟩
theorem p_fades_L95 {k w h : Nat} {sh : Nat → Nat} {r m : Nat} (hm : m < 64) (x2 x3 x4 x5 x7 : Int32) : ∀ (j n c : Nat) (A : Nat → Nat → Int32), c + j = w → j < n → r < h → Pic (A 3) k w h (zfd w r m sh c) → ∃ f, fX8_fades_L95 n (nI r) x2 x3 x4 x5 (nI w) x7 (nI m) (nI c) A = some (va_up A 3 f) ∧ Pic f k w h (zfd w r m sh w) := by
  intro j
  induction j with
  | zero =>
    intro n c A hc hn hr H
    have hw := H.ww
    obtain ⟨n, rfl⟩ : ∃ x, n = x + 1 := ⟨n - 1, by omega⟩
    obtain rfl : c = w := by omega
    rw [fX8_fades_L95_s, if_pos (nI_le (Nat.le_refl _) (by omega))]
    exact ⟨A 3, by rw [va_up_id], H⟩
  | succ j ih =>
    intro n c A hc hn hr H
    have hw := H.ww
    have h36 := H.n36
    obtain ⟨n, rfl⟩ : ∃ x, n = x + 1 := ⟨n - 1, by omega⟩
    obtain ⟨g1, g2, g3⟩ := gs_ix (w := w) (h := h) (r := r) (c := c) hr (by omega)
    rw [fX8_fades_L95_s, if_neg (nI_ge (by omega) (by omega)), sh_b1_s (p_has _ (by omega)), sm_zb m hm c (by omega), pk_mul, show (3 : Int32) + nI (w * r) = nI (3 + w * r) from nI_add 3 _, nI_add, nI_1]
    have hidx : 3 + w * r + c = 3 + (w * r + c) := by omega
    generalize he : w * r + c = e at *
    cases hb : m.testBit c with
    | false =>
      rw [if_pos z01_f, sh_b1_s (sh_ald_n (by omega) (by omega)), sh_b1_s (sh_ast_n (by omega) (by omega))]
      rw [show upd (A 3) (3 + w * r + c) (A 3 (3 + w * r + c)) = A 3 from funext fun i => by
        by_cases q : i = 3 + w * r + c
        · rw [q, pk_us]
        · rw [pk_un q], va_up_id]
      refine ih n (c + 1) A (by omega) (by omega) hr ?_
      have hsame : zfd w r m sh (c + 1) = zfd w r m sh c := funext fun d => zfd_n (fun z => by rw [z.2.1, hb] at z; exact nomatch z.2.2)
      rw [hsame]
      exact H
    | true =>
      rw [if_neg z01_t, sh_b1_s (sh_ast_n (by omega) (by omega))]
      obtain ⟨f, e1, P1⟩ := ih n (c + 1) (va_up A 3 (upd (A 3) (3 + w * r + c) 0)) (by omega) (by omega) hr (by
        rw [va_up_self]
        obtain ⟨a1, a2, a3, a4, a5⟩ := H
        refine ⟨by rw [pk_un (by omega)]; exact a1, by rw [pk_un (by omega)]; exact a2, by rw [pk_un (by omega)]; exact a3, a4, fun d hd => ?_⟩
        by_cases q : d = e
        · have hz : zfd w r m sh (c + 1) d = 0 := by
            unfold zfd
            rw [q]
            exact if_pos ⟨g2, by omega, by rw [g3]; exact hb⟩
          rw [hz, show 3 + d = 3 + w * r + c by omega, pk_us]
          exact ⟨rfl, by omega⟩
        · rw [pk_un (by omega), zfd_n (fun z => q (by
            have := Nat.div_add_mod d w
            rw [z.1, z.2.1] at this
            omega))]
          exact a5 d hd)
      rw [va_up_up] at e1
      exact ⟨f, e1, P1⟩
theorem p_beginP {A : Nat → Nat → Int32} {k w h : Nat} {sh : Nat → Nat} (H : Pic (A 2) k w h sh) : ∃ f, fX8_begin A = some (va_up A 3 f) ∧ Pic f k w h sh := by
  have h36 := H.n36
  obtain ⟨f, e, h1, -⟩ := p_begin_L2 39 sh_fu 0 A (by omega) (by unfold sh_fu; omega)
  unfold fX8_begin
  rw [nI_0] at e
  rw [sh_b1_s e]
  obtain ⟨a1, a2, a3, a4, a5⟩ := H
  exact ⟨f, rfl, by rw [h1 0 (by omega) (by omega)]; exact a1, by rw [h1 1 (by omega) (by omega)]; exact a2, by rw [h1 2 (by omega) (by omega)]; exact a3, a4, fun d hd => by rw [h1 (3 + d) (by omega) (by omega)]; exact a5 d hd⟩
theorem p_fades_L79 {k w h : Nat} {sh : Nat → Nat} {r t v x : Nat} (ht : 1 ≤ t ∧ t ≤ 9) (hv : v ≤ 36) (hx : x ≤ 10) (hr : r < h) (x5 : Int32) : ∀ (j n m : Nat) (A : Nat → Nat → Int32), m + j = 2 ^ w → j < n → Pic (A 2) k w h sh → ∃ f, fX8_fades_L79 n (nI r) (nI t) (nI v) (nI x) x5 (nI w) (nI (fb_sm (z8t (zG k w h r v (up (w * h) sh t)) x (10 - x) w) m)) (nI m) A = some (nI (fb_sm (z8t (zG k w h r v (up (w * h) sh t)) x (10 - x) w) (2 ^ w)), va_up A 3 f) := by
  intro j
  induction j with
  | zero =>
    intro n m A hm hn H
    have hw := H.ww
    have h64 := sm_pow64 hw.2
    obtain ⟨n, rfl⟩ : ∃ x, n = x + 1 := ⟨n - 1, by omega⟩
    obtain rfl : m = 2 ^ w := by omega
    rw [fX8_fades_L79_s, sm_pow w (by omega), if_pos (nI_le (Nat.le_refl _) (by omega))]
    exact ⟨A 3, by rw [va_up_id]⟩
  | succ j ih =>
    intro n m A hm hn H
    have hw := H.ww
    have h36 := H.n36
    have h64 := sm_pow64 hw.2
    obtain ⟨n, rfl⟩ : ∃ x, n = x + 1 := ⟨n - 1, by omega⟩
    obtain ⟨f1, e1, P1⟩ := p_beginP H
    obtain ⟨f2, e2, P2⟩ := p_fades_L95 (k := k) (w := w) (h := h) (sh := sh) (r := r) (m := m) (by omega) (nI t) (nI v) (nI x) x5 (nI (fb_sm (z8t (zG k w h r v (up (w * h) sh t)) x (10 - x) w) m)) w sh_fu 0 (va_up A 3 f1) (by omega) (by unfold sh_fu; omega) hr (by rw [va_up_self, zfd_0]; exact P1)
    rw [va_up_up, nI_0] at e2
    have hpc := mk_pcw w (by omega) m (by omega)
    rw [fX8_fades_L79_s, sm_pow w (by omega), if_neg (nI_ge (by omega) (by omega)), sh_b1_s e1, sh_b1_s e2, sh_b1_s (p_many _), sm_zn m (by omega), show fb_ct (fun i => m.testBit i) 6 = zpc m from rfl, va_up_self, sh_b1_s (p_partsOf1 P2 (by omega)), show up (w * h) (zfd w r m sh w) t = (fun i => up (w * h) sh t i && !gs w h r (fun j => m.testBit j) i) from funext fun i => zfd_up (by omega) ht.1 i, nI_1]
    have hcl := zcnt_le k w (fun i => up (w * h) sh t i && !gs w h r (fun j => m.testBit j) i)
    obtain ⟨f, e⟩ := ih n (m + 1) (va_up A 3 f2) (by omega) (by omega) (by rw [va_up_ne _ _ (by omega)]; exact H)
    rw [va_up_up, fb_sm_succ] at e
    by_cases z : v ≤ zcnt k w (fun i => up (w * h) sh t i && !gs w h r (fun j => m.testBit j) i)
    · have hg : z8t (zG k w h r v (up (w * h) sh t)) x (10 - x) w m = x ^ zpc m * (10 - x) ^ (w - zpc m) := by
        unfold z8t
        rw [show zG k w h r v (up (w * h) sh t) m = 1 from if_pos z, Nat.one_mul]
      rw [if_neg (nI_nlt z (by omega)), sh_b1_s (mk_pow8 x (by omega) _ (by omega)), show (10 : Int32) - nI x = nI (10 - x) from pk_sub (a := 10) hx, pk_sub hpc, sh_b1_s (mk_pow8 (10 - x) (by omega) _ (by omega)), pk_mul, nI_add, ← hg]
      exact ⟨f, e⟩
    · have hg : z8t (zG k w h r v (up (w * h) sh t)) x (10 - x) w m = 0 := by
        unfold z8t
        rw [show zG k w h r v (up (w * h) sh t) m = 0 from if_neg z, Nat.zero_mul]
      rw [if_pos (nI_lt (by omega) (by omega)), Int32.add_zero]
      rw [hg, Nat.add_zero] at e
      exact ⟨f, e⟩
