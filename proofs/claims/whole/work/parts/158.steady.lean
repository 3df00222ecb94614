/-! growing, and steady nodes -/
noncomputable def zga (k w h : Nat) (sh : Nat → Nat) (st t e : Nat) : Nat := fb_ct (fun i => zC k w h sh (t - st) e i && !zC k w h sh t e i) 36
noncomputable def znn (k w h : Nat) (sh : Nat → Nat) (t e : Nat) : Nat := fb_ct (zC k w h sh t e) 36
theorem zga_le (k w h : Nat) (sh : Nat → Nat) (st t e : Nat) : zga k w h sh st t e ≤ 36 := fb_ct_le _ _
theorem znn_le (k w h : Nat) (sh : Nat → Nat) (t e : Nat) : znn k w h sh t e ≤ 36 := fb_ct_le _ _
def Ig (I I2 : Nat → Int32) : Prop := ∀ j, j ≠ 4 → j ≠ 5 → I2 j = I j
theorem Ig.rf (I : Nat → Int32) : Ig I I := fun _ _ _ => rfl
theorem Ig.tr {I I2 I3 : Nat → Int32} (a : Ig I I2) (b : Ig I2 I3) : Ig I I3 := fun j h1 h2 => by rw [b j h1 h2, a j h1 h2]
theorem p_layGrown {A : Nat → Nat → Int32} {k w h : Nat} {sh : Nat → Nat} (H : Pic (A 2) k w h sh) {S : Nat → Bool} {l e : Nat} (hS : Nd k w h sh S l e) {st : Nat} (hst : st ≤ 9) (I : Nat → Int32) : fX8_layGrown I A (zs S) (nI st) = some (upd (upd I 4 (nI (zga k w h sh st l e))) 5 (nI (znn k w h sh l e))) := by
  unfold fX8_layGrown
  have h36 := H.n36
  have he := hS.1.1
  have hl := hS.lv
  have h9 := H.sh9 he
  have hd : nI (fb_ct (zC k w h sh (l - st) e) 36) - nI (fb_ct S 36) = nI (zga k w h sh st l e) := by
    have h1 := ct_diff (S := S) (T := zC k w h sh (l - st) e) (fun i hi => by rw [hS.2] at hi; exact zC_mono (Nat.sub_le _ _) hi) 36
    have h2 : zga k w h sh st l e = fb_ct (fun i => zC k w h sh (l - st) e i && !S i) 36 := by unfold zga; rw [← hS.2]
    rw [h2, h1, pk_sub (Nat.le_add_right _ _), Nat.add_sub_cancel_left]
  have hn : fb_ct S 36 = znn k w h sh l e := by unfold znn; rw [← hS.2]
  rw [sh_b1_s (p_level8 H hS.1), sh_b1_s (p_head8 H (fun i hi => hS.lt hi) hS.1)]
  rcases Nat.lt_or_ge l st with q | q
  · have q0 : ¬ 0 ≤ nI l - nI st := by
      have := pk_sneg (a := l) (b := st) (by omega) q
      exact Int32.not_le.mpr this
    rw [if_neg q0, show (0 : Int32) = nI (l - st) by rw [show l - st = 0 by omega]; rfl, sh_b1_s (p_partC H (by omega) (by omega)), sh_b1_s (p_many _), sh_b1_s (p_many _), sh_b1_s (p_many _), zs_n, zs_n, hd, hn]
  · rw [pk_sub q, if_pos (nI_pos' (by omega)), sh_b1_s (p_partC H (by omega) (by omega)), sh_b1_s (p_many _), sh_b1_s (p_many _), sh_b1_s (p_many _), zs_n, zs_n, hd, hn]
def zok (g1 n1 g2 n2 : Nat) : Bool := decide (g1 * n2 ≤ g2 * n1)
theorem z_mul36 {a b : Nat} (ha : a ≤ 36) (hb : b ≤ 36) : a * b < 2 ^ 31 := Nat.lt_of_le_of_lt (Nat.mul_le_mul ha hb) (by decide)
theorem p_growsLess {A : Nat → Nat → Int32} {k w h : Nat} {sh : Nat → Nat} (H : Pic (A 2) k w h sh) {S T : Nat → Bool} {l e m f : Nat} (hS : Nd k w h sh S l e) (hT : Nd k w h sh T m f) {st : Nat} (hst : st ≤ 9) (I : Nat → Int32) : ∃ I2, fX8_growsLess I A (zs S) (zs T) (nI st) = some (z01 (zok (zga k w h sh st l e) (znn k w h sh l e) (zga k w h sh st m f) (znn k w h sh m f)), I2) ∧ Ig I I2 := by
  unfold fX8_growsLess
  rw [sh_b1_s (p_layGrown H hS hst I), sh_b1_s (p_layGrown H hT hst _)]
  have g1 := zga_le k w h sh st l e
  have g2 := zga_le k w h sh st m f
  have n1 := znn_le k w h sh l e
  have n2 := znn_le k w h sh m f
  generalize zga k w h sh st l e = a1 at *
  generalize zga k w h sh st m f = a2 at *
  generalize znn k w h sh l e = b1 at *
  generalize znn k w h sh m f = b2 at *
  have e1 : ∀ (J : Nat → Int32) (x y : Int32), upd (upd J 4 x) 5 y 4 = x := fun J x y => by rw [pk_un (by omega), pk_us]
  have e2 : ∀ (J : Nat → Int32) (x y : Int32), upd (upd J 4 x) 5 y 5 = y := fun J x y => pk_us
  rw [e1, e2, e1, e2, pk_mul, pk_mul]
  refine ⟨upd (upd (upd (upd I 4 (nI a1)) 5 (nI b1)) 4 (nI a2)) 5 (nI b2), ?_, fun j h1 h2 => by rw [pk_un h2, pk_un h1, pk_un h2, pk_un h1]⟩
  unfold zok
  by_cases q : a1 * b2 ≤ a2 * b1
  · rw [if_neg (nI_nlt q (z_mul36 g2 n1)), decide_eq_true q]; rfl
  · rw [if_pos (nI_lt (by omega) (z_mul36 g1 n2)), decide_eq_false q]; rfl
/-- a child that does not grow enough -/
noncomputable def zbad (k w h : Nat) (sh : Nat → Nat) (S : Nat → Bool) (st l e x : Nat) : Bool := zch k w h sh S l x && !zok (zga k w h sh st l e) (znn k w h sh l e) (zga k w h sh st (sh x) x) (znn k w h sh (sh x) x)
noncomputable def zpo (k w h : Nat) (sh : Nat → Nat) (st l e : Nat) : Bool := match zpl (fun t => zC k w h sh t e) l l with
  | none => true
  | some s => zok (zga k w h sh st l e) (znn k w h sh l e) (zga k w h sh st s e) (znn k w h sh s e)
noncomputable def zsd (k w h : Nat) (sh : Nat → Nat) (S : Nat → Bool) (st l e : Nat) : Bool := zpo k w h sh st l e && decide (fb_ct (zbad k w h sh S st l e) 36 = 0)
theorem ct0_succ (q : Nat → Bool) (b : Bool) (d : Nat) : (b && decide (fb_ct q (d + 1) = 0)) = ((b && decide (fb_ct q d = 0)) && !q d) := by
  rw [fb_ct_succ]
  generalize fb_ct q d = c
  cases b <;> cases q d <;> simp
theorem p_isSteady8_L {A : Nat → Nat → Int32} {k w h : Nat} {sh : Nat → Nat} (H : Pic (A 2) k w h sh) {S : Nat → Bool} {l e : Nat} (hS : Nd k w h sh S l e) {st : Nat} (hst : st ≤ 9) (b : Bool) : ∀ (r n d : Nat) (I : Nat → Int32), d + r = w * h → r < n → ∃ I2, fX8_isSteady_L23 n (zs S) (nI st) (z01 (b && decide (fb_ct (zbad k w h sh S st l e) d = 0))) (nI d) I A = some (z01 (b && decide (fb_ct (zbad k w h sh S st l e) (w * h) = 0)), I2) ∧ Ig I I2 := by
  have h36 := H.n36
  have hS36 : ∀ i, S i = true → i < 36 := fun i hi => Nat.lt_of_lt_of_le (hS.lt hi) h36
  intro r
  induction r with
  | zero =>
    intro n d I hd hn
    obtain ⟨n, rfl⟩ : ∃ m, n = m + 1 := ⟨n - 1, by omega⟩
    obtain rfl : d = w * h := by omega
    rw [fX8_isSteady_L23_s, sh_b1_s H.dots, if_pos (nI_le (Nat.le_refl _) (by omega))]
    exact ⟨I, rfl, Ig.rf I⟩
  | succ r ih =>
    intro n d I hd hn
    obtain ⟨n, rfl⟩ : ∃ m, n = m + 1 := ⟨n - 1, by omega⟩
    have hs := fun I => ih n (d + 1) I (by omega) (by omega)
    have hdn : d < w * h := by omega
    simp only [ct0_succ _ b d] at hs
    rw [fX8_isSteady_L23_s, sh_b1_s H.dots, if_neg (nI_ge (by omega) (by omega)), sh_b1_s (p_has _ (by omega)), zb_zs' hS36, nI_1]
    generalize hx : (b && decide (fb_ct (zbad k w h sh S st l e) d = 0)) = x at hs ⊢
    have hno : zch k w h sh S l d = false → ∀ I, ∃ I2, fX8_isSteady_L23 n (zs S) (nI st) (z01 x) (nI (d + 1)) I A = some (z01 (b && decide (fb_ct (zbad k w h sh S st l e) (w * h) = 0)), I2) ∧ Ig I I2 := fun q I => by
      have := hs I
      rw [show zbad k w h sh S st l e d = false by unfold zbad; rw [q]; rfl, Bool.not_false, Bool.and_true] at this
      exact this
    cases hSd : S d with
    | false => rw [if_pos z01_f]; exact hno (Bool.eq_false_iff.mpr (fun q => by have := (zch_iff.mp q).1; rw [hSd] at this; exact nomatch this)) I
    | true =>
      have hci := ch_iff hS hSd
      rw [if_neg z01_t, sh_b1_s (p_isHead H hdn)]
      cases hh : zh k w h sh d with
      | false => rw [if_pos z01_f]; exact hno (Bool.eq_false_iff.mpr (fun q => by have := (hci.mp (zch_iff.mp q)).1; rw [hh] at this; exact nomatch this)) I
      | true =>
        have hN := (zh_iff.mp hh).2
        have hN36 : ∀ i, zC k w h sh (sh d) d i = true → i < 36 := fun i hi => Nat.lt_of_lt_of_le (zC_lt hi) h36
        rw [if_neg z01_t, show fX8_nodeOf (A 2) (nI d) = some (zs (zC k w h sh (sh d) d)) from p_nodeOf H hdn, sh_b1_s rfl]
        cases x with
        | false =>
          rw [if_pos z01_f]
          have := hs I
          rw [Bool.false_and] at this
          exact this
        | true =>
          rw [if_neg z01_t]
          by_cases q1 : zC k w h sh (sh d) d = S
          · rw [if_pos (show zs (zC k w h sh (sh d) d) = zs S by rw [q1])]
            exact hno (Bool.eq_false_iff.mpr (fun q => (hci.mp (zch_iff.mp q)).2.1 q1)) I
          · have hpar36 : ∀ i, zpr (fun t => zC k w h sh t d) (sh d) (sh d) i = true → i < 36 := fun i hi => by
              unfold zpr at hi
              cases hz : zpl (fun t => zC k w h sh t d) (sh d) (sh d) with
              | none => rw [hz] at hi; exact hN36 i hi
              | some s => rw [hz] at hi; exact Nat.lt_of_lt_of_le (zC_lt hi) h36
            rw [if_neg (fun z => q1 (zs_inj hN36 hS36 z)), sh_b1_s (p_parent8 H hN)]
            by_cases q2 : zpr (fun t => zC k w h sh t d) (sh d) (sh d) = S
            · rw [if_pos (by rw [q2])]
              obtain ⟨I2, e2, g2⟩ := p_growsLess H hS hN hst I
              rw [sh_b2_s e2]
              have hc : zch k w h sh S l d = true := zch_iff.mpr (hci.mpr ⟨hh, q1, q2⟩)
              obtain ⟨I3, e3, g3⟩ := hs I2
              rw [show zbad k w h sh S st l e d = !zok (zga k w h sh st l e) (znn k w h sh l e) (zga k w h sh st (sh d) d) (znn k w h sh (sh d) d) from by unfold zbad; rw [hc, Bool.true_and], Bool.not_not, Bool.true_and] at e3
              refine ⟨I3, ?_, g2.tr g3⟩
              cases hz : zok (zga k w h sh st l e) (znn k w h sh l e) (zga k w h sh st (sh d) d) (znn k w h sh (sh d) d) with
              | false => rw [hz] at e3; rw [if_pos z01_f]; exact e3
              | true => rw [hz] at e3; rw [if_neg z01_t]; exact e3
            · rw [if_neg (fun z => q2 (zs_inj hpar36 hS36 z))]
              exact hno (Bool.eq_false_iff.mpr (fun q => q2 (hci.mp (zch_iff.mp q)).2.2)) I
theorem zbad_ct {k w h : Nat} {sh : Nat → Nat} {S : Nat → Bool} {st l e : Nat} (hS : Nd k w h sh S l e) (hn : w * h ≤ 36) : fb_ct (zbad k w h sh S st l e) (w * h) = fb_ct (zbad k w h sh S st l e) 36 := (ct_tail hn (fun j hj _ => Bool.eq_false_iff.mpr (fun q => by
  unfold zbad at q
  rw [Bool.and_eq_true] at q
  have := hS.lt (zch_iff.mp q.1).1
  omega))).symm
theorem sh_zr_01 (b : Bool) : sh_zr (z01 b) = some (z01 b) := by cases b <;> rfl
theorem p_isSteady8 {A : Nat → Nat → Int32} {k w h : Nat} {sh : Nat → Nat} (H : Pic (A 2) k w h sh) {S : Nat → Bool} {l e : Nat} (hS : Nd k w h sh S l e) {st : Nat} (hst : st ≤ 9) (I : Nat → Int32) : ∃ I2, fX8_isSteady I A (zs S) (nI st) = some (z01 (zsd k w h sh S st l e), I2) ∧ Ig I I2 := by
  unfold fX8_isSteady
  have h36 := H.n36
  rw [sh_b1_s (p_parent8 H hS)]
  have hp : ∃ I2, fX8_growsLess I A (zs S) (zs (zpr (fun t => zC k w h sh t e) l l)) (nI st) = some (z01 (zpo k w h sh st l e), I2) ∧ Ig I I2 := by
    unfold zpr zpo
    cases hz : zpl (fun t => zC k w h sh t e) l l with
    | none =>
      dsimp only
      obtain ⟨I2, e2, g2⟩ := p_growsLess H hS hS hst I
      refine ⟨I2, ?_, g2⟩
      rw [show zC k w h sh l e = S from hS.2.symm, e2]
      rw [show zok (zga k w h sh st l e) (znn k w h sh l e) (zga k w h sh st l e) (znn k w h sh l e) = true from decide_eq_true (Nat.le_refl _)]
    | some s =>
      dsimp only
      obtain ⟨e2, n1, n2, n3⟩ := nd_parent hS hz
      obtain ⟨I2, i2, g2⟩ := p_growsLess H hS n1 hst I
      refine ⟨I2, ?_, g2⟩
      have hc : ∀ t, t ≤ s → zC k w h sh t e2 = zC k w h sh t e := fun t ht => zC_chain n1.1.2.1 ht
      rw [i2]
      unfold zga znn
      rw [hc s (Nat.le_refl _), hc (s - st) (by omega)]
  obtain ⟨I2, e2, g2⟩ := hp
  rw [sh_b2_s e2]
  obtain ⟨I3, e3, g3⟩ := p_isSteady8_L H hS hst (zpo k w h sh st l e) (w * h) sh_fu 0 I2 (by omega) (by unfold sh_fu; omega)
  rw [show (zpo k w h sh st l e && decide (fb_ct (zbad k w h sh S st l e) 0 = 0)) = zpo k w h sh st l e from by simp [fb_ct], nI_0] at e3
  rw [sh_b2_s e3, sh_b1_s (sh_zr_01 _)]
  refine ⟨I3, ?_, g2.tr g3⟩
  unfold zsd
  rw [zbad_ct hS h36]
/-! the class -/
theorem p_darkest_L {p : Nat → Int32} {gw gd gh : Int32} {ga gl gr : Int64} {sL : Nat → Int64} {k w h : Nat} {sh : Nat → Nat} (H : Sys p gw gd gh ga gl gr sL k w h sh) {S : Nat → Bool} {l e : Nat} (hS : Nd k w h sh S l e) (tP : Nat → Int64) (tN : Nat → Int32) (tz : Int32) : ∀ (t n : Nat), l ≤ t → t ≤ 9 → t < n → fX6_darkest_L3 n (zs S) (nI t) gw gd gh ga gl gr sL tP tN tz = some (if l = 0 then .inr () else .inl (nI l)) := by
  have h36 := H.1.n36
  have hT : ∀ t i, (S i && !up (w * h) sh t i) = true → i < 36 := fun t i hi => by
    rw [Bool.and_eq_true] at hi
    exact Nat.lt_of_lt_of_le (hS.lt hi.1) h36
  intro t
  induction t with
  | zero =>
    intro n hl _ hn
    obtain ⟨n, rfl⟩ : ∃ m, n = m + 1 := ⟨n - 1, by omega⟩
    obtain rfl : l = 0 := by omega
    rw [fX6_darkest_L3_s, if_pos (show nI 0 ≤ 0 from by decide), if_pos rfl]
  | succ t ih =>
    intro n hl h9 hn
    obtain ⟨n, rfl⟩ : ∃ m, n = m + 1 := ⟨n - 1, by omega⟩
    rw [fX6_darkest_L3_s, if_neg (nI_nle (by omega) (by omega)), sh_b1_s (p_atLeast H.2.2 H.sh9 (by omega)), zs_not, z_m1, nI_pred]
    by_cases q : l = t + 1
    · subst q
      rw [if_pos ((zs_0 (hT _)).mpr (fun i => ?_)), if_neg (by omega)]
      cases hi : S i with
      | false => rfl
      | true => rw [up_mk (hS.lt hi) (hS.1.2.2.2.2 i hi)]; rfl
    · rw [if_neg (fun z => ?_)]
      · exact ih n (by omega) (by omega) (by omega)
      · have h1 := (zs_0 (hT _)).mp z e
        rw [hS.1.2.1, Bool.true_and, Bool.not_eq_false'] at h1
        have h2 := up_le h1
        have h3 := hS.lv
        omega
theorem p_darkest {p : Nat → Int32} {gw gd gh : Int32} {ga gl gr : Int64} {sL : Nat → Int64} {k w h : Nat} {sh : Nat → Nat} (H : Sys p gw gd gh ga gl gr sL k w h sh) {S : Nat → Bool} {l e : Nat} (hS : Nd k w h sh S l e) (tP : Nat → Int64) (tN : Nat → Int32) (tz : Int32) : fX6_darkest gw gd gh ga gl gr sL tP tN tz (zs S) = some (nI l) := by
  unfold fX6_darkest
  have h9 := H.sh9 e hS.1.1
  have hl := hS.lv
  have hq := p_darkest_L H hS tP tN tz 9 sh_fu (by omega) (by omega) (by unfold sh_fu; omega)
  by_cases q : l = 0
  · rw [if_pos q] at hq
    rw [show (9 : Int32) = nI 9 from rfl, sh_bs_r hq, q]; rfl
  · rw [if_neg q] at hq
    rw [show (9 : Int32) = nI 9 from rfl, sh_bs_l hq]
theorem p_isSteady7_L {p : Nat → Int32} {gw gd gh : Int32} {ga gl gr : Int64} {sL : Nat → Int64} {k w h : Nat} {sh : Nat → Nat} (H : Sys p gw gd gh ga gl gr sL k w h sh) {S : Nat → Bool} {l e : Nat} (hS : Nd k w h sh S l e) {st : Nat} (hst : st ≤ 9) (tP : Nat → Int64) (tN : Nat → Int32) (tz : Int32) : ∀ (r n c : Nat) (R : Nat → Bool), c + r = 36 → fb_ct R 36 ≤ r → r < n → (∀ i, R i = true → S i = true ∧ l < sh i ∧ ∀ j, zC k w h sh (l + 1) i j = true → R j = true) → fX6_isSteady_L83 n (nI l) (nI st) (nI (zga k w h sh st l e)) (nI (znn k w h sh l e)) (zs R) (nI c) gw gd gh ga gl gr sL tP tN tz = some (if fb_ct (fun x => R x && zbad k w h sh S st l e x) 36 = 0 then .inr () else .inl 0) := by
  have h36 := H.1.n36
  intro r
  induction r with
  | zero =>
    intro n c R hc hr hn hR
    obtain ⟨n, rfl⟩ : ∃ m, n = m + 1 := ⟨n - 1, by omega⟩
    obtain rfl : c = 36 := by omega
    have hR0 := fb_ct_zero.mp (Nat.le_zero.mp hr)
    rw [fX6_isSteady_L83_s, if_pos (show (36 : Int32) ≤ nI 36 from nI_le (a := 36) (b := 36) (by omega) (by omega)), if_pos (fb_ct_zero.mpr (fun x hx => by rw [hR0 x hx]; rfl))]
  | succ r ih =>
    intro n c R hc hr hn hR
    obtain ⟨n, rfl⟩ : ∃ m, n = m + 1 := ⟨n - 1, by omega⟩
    have hR36 : ∀ i, R i = true → i < 36 := fun i hi => Nat.lt_of_lt_of_le (hS.lt (hR i hi).1) h36
    rw [fX6_isSteady_L83_s, if_neg (show ¬ (36 : Int32) ≤ nI c from nI_ge (b := 36) (by omega) (by omega))]
    by_cases h0 : zs R = 0
    · have hR0 := (zs_0 hR36).mp h0
      rw [if_pos h0, if_pos (fb_ct_zero.mpr (fun x hx => by rw [hR0 x]; rfl))]
    · obtain ⟨d, hd, h1, h2⟩ := z_least hR36 h0
      obtain ⟨hdS, hdl, hdR⟩ := hR d h1
      have hdn := hS.lt hdS
      have hd9 := H.sh9 d hdn
      obtain ⟨y, hy, hdy⟩ := ch_ex hS hdS hdl
      obtain ⟨a1, a2, a3, a4, a5⟩ := ch_node hS hy
      have hyd : zC k w h sh (l + 1) d = zC k w h sh (sh y) y := by rw [zC_eq hdy, a1]
      have hy9 := H.sh9 y a2.1.1
      have hyR : R y = true := hdR y hdy
      rw [if_neg h0, p_lows hd h1 h2]
      rw [show (nI l + 1 : Int32) = nI (l + 1) from nI_1 l, sh_b1_s (p_partAt H (by omega) _), zq_one]
      rw [show zp k w (up (w * h) sh (l + 1)) d = zC k w h sh (sh y) y from hyd, sh_b1_s (p_bcs _), sh_b1_s (p_darkest H a2 tP tN tz), sh_b1_s (p_gain7 H a2 hst)]
      rw [show fb_ct (fun i => zC k w h sh (sh y - st) y i && !zC k w h sh (sh y) y i) 36 = zga k w h sh st (sh y) y from rfl, show fb_ct (zC k w h sh (sh y) y) 36 = znn k w h sh (sh y) y from rfl, pk_mul, pk_mul, zs_not, nI_1]
      have g1 := zga_le k w h sh st l e
      have g2 := zga_le k w h sh st (sh y) y
      have n1 := znn_le k w h sh l e
      have n2 := znn_le k w h sh (sh y) y
      have hzy : zch k w h sh S l y = true := zch_iff.mpr hy
      by_cases q : zga k w h sh st l e * znn k w h sh (sh y) y ≤ zga k w h sh st (sh y) y * znn k w h sh l e
      · have hby : zbad k w h sh S st l e y = false := by unfold zbad zok; rw [decide_eq_true q]; simp
        rw [if_pos (nI_le q (z_mul36 g2 n1))]
        have hlt : fb_ct (fun i => R i && !zC k w h sh (sh y) y i) 36 < fb_ct R 36 := by
          have h3 := ct_diff (S := fun i => R i && !zC k w h sh (sh y) y i) (T := R) (fun i hi => by rw [Bool.and_eq_true] at hi; exact hi.1) 36
          have h4 : 0 < fb_ct (fun i => R i && !(R i && !zC k w h sh (sh y) y i)) 36 := fb_ct_pos.mpr ⟨y, hR36 y hyR, by rw [hyR, a2.1.2.1]; rfl⟩
          rw [h3]
          exact Nat.lt_add_of_pos_right h4
        rw [ih n (c + 1) (fun i => R i && !zC k w h sh (sh y) y i) (by omega) (by omega) (by omega) (fun i hi => ?_)]
        · have hct : fb_ct (fun x => (fun i => R i && !zC k w h sh (sh y) y i) x && zbad k w h sh S st l e x) 36 = fb_ct (fun x => R x && zbad k w h sh S st l e x) 36 := by
            apply fb_ct_cong
            intro x hx
            dsimp only
            cases hb : zbad k w h sh S st l e x with
            | false => simp
            | true =>
              cases hz : zC k w h sh (sh y) y x with
              | false => simp
              | true =>
                exfalso
                have hxc : IsCh k w h sh S l x := by
                  unfold zbad at hb
                  rw [Bool.and_eq_true] at hb
                  exact zch_iff.mp hb.1
                have hxy : x = y := by
                  have e1 := hxc.2.2
                  have e2 := hy.2.2
                  rw [show zC k w h sh (l + 1) x = zC k w h sh (l + 1) y from by rw [a1]; rw [← a1] at hz ⊢; exact (zC_eq hz).symm] at e1
                  exact e1.head_unique e2
                rw [hxy, hby] at hb
                exact nomatch hb
          rw [hct]
        · rw [Bool.and_eq_true, Bool.not_eq_true'] at hi
          obtain ⟨b1, b2, b3⟩ := hR i hi.1
          refine ⟨b1, b2, fun j hj => ?_⟩
          rw [Bool.and_eq_true, Bool.not_eq_true']
          refine ⟨b3 j hj, Bool.eq_false_iff.mpr (fun z => ?_)⟩
          rw [← a1] at z
          have h5 : zC k w h sh (l + 1) y i = true := by
            rw [zC_eq z, ← zC_eq hj]
            exact zC_self (hS.lt b1) b2
          rw [a1, hi.2] at h5
          exact nomatch h5
      · have hby : zbad k w h sh S st l e y = true := by unfold zbad zok; rw [hzy, decide_eq_false q]; rfl
        rw [if_neg (nI_ge (by omega) (z_mul36 g1 n2)), if_neg (fun z => ?_)]
        have := fb_ct_zero.mp z y (hR36 y hyR)
        rw [hyR, hby] at this
        exact nomatch this
theorem p_isSteady7 {p : Nat → Int32} {gw gd gh : Int32} {ga gl gr : Int64} {sL : Nat → Int64} {k w h : Nat} {sh : Nat → Nat} (H : Sys p gw gd gh ga gl gr sL k w h sh) {S : Nat → Bool} {l e : Nat} (hS : Nd k w h sh S l e) {st : Nat} (hst : st ≤ 9) (tP : Nat → Int64) (tN : Nat → Int32) (tz : Int32) : fX6_isSteady gw gd gh ga gl gr sL tP tN tz (zs S) (nI l) (nI st) = some (z01 (zsd k w h sh S st l e)) := by
  unfold fX6_isSteady
  have h36 := H.1.n36
  have he := hS.1.1
  have h9 := H.sh9 e he
  have hl := hS.lv
  have hga : fb_ct (fun i => zC k w h sh (l - st) e i && !S i) 36 = zga k w h sh st l e := by unfold zga; rw [← hS.2]
  have hnn : fb_ct S 36 = znn k w h sh l e := by unfold znn; rw [← hS.2]
  have hloop : sh_bs (fX6_isSteady_L83 sh_fu (nI l) (nI st) (nI (zga k w h sh st l e)) (nI (znn k w h sh l e)) (zs S &&& zs (up (w * h) sh (l + 1))) 0 gw gd gh ga gl gr sL tP tN tz) (fun _ => some (1 : Int32)) = some (z01 (decide (fb_ct (zbad k w h sh S st l e) 36 = 0))) := by
    have hq := p_isSteady7_L H hS hst tP tN tz 36 sh_fu 0 (fun i => S i && up (w * h) sh (l + 1) i) (by omega) (fb_ct_le _ _) (by unfold sh_fu; omega) (fun i hi => by
      rw [Bool.and_eq_true] at hi
      refine ⟨hi.1, up_le hi.2, fun j hj => ?_⟩
      rw [Bool.and_eq_true]
      refine ⟨?_, up_mk (zC_lt hj) (zC_le hj)⟩
      have h1 := hi.1
      rw [hS.2] at h1 ⊢
      rw [zC_eq h1]
      exact zC_mono (Nat.le_succ l) hj)
    rw [zs_and]
    rw [show fb_ct (fun x => (fun i => S i && up (w * h) sh (l + 1) i) x && zbad k w h sh S st l e x) 36 = fb_ct (zbad k w h sh S st l e) 36 from fb_ct_cong (fun x _ => by
      dsimp only
      cases hb : zbad k w h sh S st l e x with
      | false => simp
      | true =>
        unfold zbad at hb
        rw [Bool.and_eq_true] at hb
        have hc := zch_iff.mp hb.1
        rw [hc.1, up_mk (hS.lt hc.1) hc.2.1]; rfl), nI_0] at hq
    by_cases q : fb_ct (zbad k w h sh S st l e) 36 = 0
    · rw [if_pos q] at hq
      rw [sh_bs_r hq, decide_eq_true q]; rfl
    · rw [if_neg q] at hq
      rw [sh_bs_l hq, decide_eq_false q]; rfl
  rw [sh_b1_s (p_gain7 H hS hst), sh_b1_s (p_bcs S), hga, hnn, sh_b1_s (p_parentLevel H hS tP tN tz), nI_1, sh_b1_s (p_atLeast H.2.2 H.sh9 (by omega)), hloop]
  unfold zsd zpo
  cases hz : zpl (fun t => zC k w h sh t e) l l with
  | none => rw [show zlo none = -9 from rfl, if_pos rfl, Bool.true_and]
  | some s =>
    obtain ⟨e2, n1, n2, n3⟩ := nd_parent hS hz
    have hc : ∀ t, t ≤ s → zC k w h sh t e2 = zC k w h sh t e := fun t ht => zC_chain n1.1.2.1 ht
    have g1 := zga_le k w h sh st l e
    have g2 := zga_le k w h sh st s e
    have m1 := znn_le k w h sh l e
    have m2 := znn_le k w h sh s e
    rw [show zlo (some s) = nI s from rfl, if_neg (z_ne9 s (by omega)), sh_b1_s (p_partAt H (by omega) S), show zq k w (up (w * h) sh s) S = zC k w h sh s e from by rw [hS.2]; exact zC_q he (by omega) (by omega), sh_b1_s (p_bcs _), sh_b1_s (p_gain7 H n1 hst), hc (s - st) (by omega), pk_mul, pk_mul]
    rw [show fb_ct (fun i => zC k w h sh (s - st) e i && !zC k w h sh s e i) 36 = zga k w h sh st s e from rfl, show fb_ct (zC k w h sh s e) 36 = znn k w h sh s e from rfl]
    dsimp only
    unfold zok
    by_cases q : zga k w h sh st l e * znn k w h sh s e ≤ zga k w h sh st s e * znn k w h sh l e
    · rw [if_pos (nI_le q (z_mul36 g2 m1)), decide_eq_true q, Bool.true_and]
    · rw [if_neg (nI_ge (by omega) (z_mul36 g1 m2)), decide_eq_false q, Bool.false_and]; rfl
