/-! slots, sights, passes -/
theorem z10 : ¬ (1 : Int32) = 0 := by decide
section
variable {I : Nat → Int32} {J : Nat → Int64} {A : Nat → Nat → Int32} {B : Nat → Nat → Int64} {I2 : Nat → Int32} {S : Int64} {A2 : Nat → Nat → Int32}
theorem z_nar1 : vp_nar .boolean 1 = 1 := by decide
theorem z_nar0 : vp_nar .boolean 0 = 0 := by decide
theorem s_keep (HS : Sim I J A B I2 S A2) (x : Int32) : ∃ o I' A' B' I2' A2', fX7_keep I J A B x = some (o, I', A', B') ∧ fX8_keep I2 A2 x = some (o, I2', A2') ∧ Sim I' J A' B' I2' S A2' := by
  obtain ⟨k, w, h, sh, tn, dn, sn, H⟩ := HS
  have HR := H.r.s
  have h36 := H.1.1.n36
  obtain ⟨p, ⟨t1, t2, t3, t4⟩, ⟨d1, d2, d3, d4⟩, kp, ⟨s1, s2, s3, s4⟩, sd, th⟩ := H
  unfold fX7_keep fX8_keep fX4_put
  rcases in_sp x (a := 0) (b := 1) (na := 0) (nb := 1) rfl rfl (by omega) with ⟨v, -, hv, rfl, e⟩ | ⟨e, q⟩
  · obtain ⟨a, b, z, e7⟩ := p_nodes7 p (B 2) (A 1)
    obtain ⟨f, e8, h1, h2⟩ := p_keep_L26 (a := v) (by omega) 39 sh_fu 0 (va_up A2 7 (upd (A2 7) v (vp_nar .boolean 1))) (by omega) (by unfold sh_fu; omega)
    rw [nI_0] at e8
    rw [va_up_ne _ _ (show 2 ≠ 7 by omega)] at h1
    rw [va_up_ne _ _ (show 6 ≠ 7 by omega)] at h2
    have e9 : va_up (va_up A2 7 (upd (A2 7) v (vp_nar .boolean 1))) 6 f 2 = A2 2 := by rw [va_up_ne _ _ (by omega), va_up_ne _ _ (by omega)]
    rw [if_neg (nI_pos (by omega)), if_pos (show nI v < 2 from nI_lt (b := 2) (by omega) (by omega)), show nI v * 10 = nI (v * 10) from pk_mul v 10, sh_b1_s (p_store (rn := 20) (by omega) (by omega)), sh_b1_s (sh_astZ_n (by omega) (by omega)), sh_b3_s rfl, if_neg (by decide), sh_b4_s e7, sh_b1_s e, if_neg (by decide), sh_b1_s (sh_astZ_n (by omega) (by omega)), sh_b1_s e8, e9, sh_b1_s (p_nodes8 p.1)]
    refine ⟨_, _, _, _, _, _, rfl, rfl, k, w, h, sh, tn, dn, sn, ?_, ⟨t1, ?_, ?_, ?_⟩, ⟨d1, ?_, ?_, ?_⟩, ?_, ⟨s1, ?_, ?_, ?_⟩, sd, pk_us⟩
    · rw [e9, pk_un (by omega), pk_un (by omega), pk_un (by omega), va_up_ne _ _ (by omega), va_up_ne _ _ (by omega)]; exact p
    · rw [pk_un (by omega)]; exact t2
    · rw [pk_un (by omega)]; exact t3
    · rw [va_up_ne _ _ (by omega), va_up_ne _ _ (by omega), va_up_ne _ _ (by omega), va_up_ne _ _ (by omega)]; exact t4
    · rw [pk_un (by omega)]; exact d2
    · rw [pk_un (by omega)]; exact d3
    · rw [va_up_ne _ _ (by omega), va_up_ne _ _ (by omega), va_up_ne _ _ (by omega), va_up_ne _ _ (by omega)]; exact d4
    · rw [va_up_ne _ _ (show 3 ≠ 1 by omega), va_up_self, va_up_ne _ _ (show 5 ≠ 2 by omega), va_up_self, va_up_ne _ _ (show 7 ≠ 6 by omega), va_up_self, va_up_self]
      intro s hs
      by_cases q : s = v
      · subst q
        rw [pk_us, pk_us]
        refine ⟨rfl, fun _ => ⟨sh, p.1.congp (fun j hj => ?_), fun t ht => ?_⟩⟩
        · show A2 2 j = f (39 * s + j)
          rw [h1 j (by omega) hj]
        · show va_cpy (B 0) (B 5) 0 (s * 10) 10 (10 * s + t) = _
          rw [cpy_in (by omega) (by omega), show 0 + (10 * s + t - s * 10) = t by omega]
          exact p.2.2 t ht
      · rw [pk_un q, pk_un q]
        obtain ⟨k1, k2⟩ := kp s hs
        refine ⟨k1, fun z => ?_⟩
        obtain ⟨s2, P, L⟩ := k2 z
        refine ⟨s2, P.congp (fun j hj => ?_), fun t ht => ?_⟩
        · show A2 6 (39 * s + j) = f (39 * s + j)
          rw [h2 _ (by omega)]
        · show va_cpy (B 0) (B 5) 0 (v * 10) 10 (10 * s + t) = _
          rw [cpy_out (by omega)]
          exact L t ht
    · rw [pk_un (by omega)]; exact s2
    · rw [pk_un (by omega)]; exact s3
    · rw [va_up_ne _ _ (by omega), va_up_ne _ _ (by omega), va_up_ne _ _ (by omega), va_up_ne _ _ (by omega), va_up_ne _ _ (by omega), va_up_ne _ _ (by omega), va_up_ne _ _ (by omega), va_up_ne _ _ (by omega), va_up_ne _ _ (by omega), va_up_ne _ _ (by omega), va_up_ne _ _ (by omega), va_up_ne _ _ (by omega)]; exact s4
  · rw [sh_b1_s e, if_pos rfl]
    have hc : (if x < 0 then some ((0 : Int32), B 5, A 3) else if x < 2 then sh_b1 (fX2_store (B 0) 20 (B 5) (x * 10)) fun u3 => sh_b1 (sh_astZ (A 3) 2 x 1) fun f5 => some (1, u3, f5) else some (0, B 5, A 3)) = some (0, B 5, A 3) := by
      by_cases z : x < 0
      · rw [if_pos z]
      · rw [if_neg z, if_neg]
        intro z2
        rw [Int32.lt_iff_toInt_lt, show Int32.toInt 0 = 0 from rfl] at z
        rw [Int32.lt_iff_toInt_lt, show Int32.toInt 2 = 2 from rfl] at z2
        omega
    rw [sh_b3_s hc, if_pos rfl, va_up_id, va_up_id]
    exact ⟨_, _, _, _, _, _, rfl, rfl, HR⟩
theorem s_again (HS : Sim I J A B I2 S A2) (x : Int32) : ∃ o I' A' B' I2' A2', fX7_again I J A B x = some (o, I', A', B') ∧ fX8_again I2 A2 x = some (o, I2', A2') ∧ Sim I' J A' B' I2' S A2' := by
  obtain ⟨k, w, h, sh, tn, dn, sn, H⟩ := HS
  have HR := H.r.s
  have h36 := H.1.1.n36
  obtain ⟨p, ⟨t1, t2, t3, t4⟩, ⟨d1, d2, d3, d4⟩, kp, ⟨s1, s2, s3, s4⟩, sd, th⟩ := H
  unfold fX7_again fX8_again fX4_bringBack fX4_has fX0_clear
  rcases in_sp x (a := 0) (b := 1) (na := 0) (nb := 1) rfl rfl (by omega) with ⟨v, -, hv, rfl, e⟩ | ⟨e, q⟩
  · obtain ⟨k1, k2⟩ := kp v (by omega)
    rw [if_neg (nI_pos (by omega)), if_neg (show ¬ (2 : Int32) ≤ nI v from nI_ge (b := 2) (by omega) (by omega)), sh_b1_s rfl, if_neg (by decide), if_neg (nI_pos (by omega)), if_neg (show ¬ (2 : Int32) ≤ nI v from nI_ge (b := 2) (by omega) (by omega)), sh_b1_s (sh_ald_n (by omega) (by omega)), sh_b1_s e, if_neg z10, sh_b1_s (sh_ald_n (by omega) (by omega)), ← k1]
    by_cases z : A 3 v = 0
    · rw [if_pos z, if_pos z, sh_b2_s rfl, if_pos rfl, va_up_id]
      exact ⟨_, _, _, _, _, _, rfl, rfl, HR⟩
    · obtain ⟨s2', P, L⟩ := k2 z
      obtain ⟨f, e8, h1, h2⟩ := p_again_L31 (a := v) (by omega) 39 sh_fu 0 A2 (by omega) (by unfold sh_fu; omega)
      rw [nI_0] at e8
      have PN : Pic f k w h s2' := P.congp (fun j hj => (h1 j (by omega) hj).symm)
      have LN : Lev (va_cpy (B 5) (B 0) (v * 10) 0 10) (w * h) s2' := fun t ht => by
        rw [cpy_in (by omega) (by omega), show v * 10 + (t - 0) = 10 * v + t by omega]
        exact L t ht
      have HY : Sys f (I 1) (I 2) (I 3) (J 0) (J 1) (J 2) (va_cpy (B 5) (B 0) (v * 10) 0 10) k w h s2' := ⟨PN, p.2.1, LN⟩
      obtain ⟨a, b, zz, e7⟩ := p_nodes7 HY (B 2) (A 1)
      rw [if_neg z, if_neg z, show nI v * 10 = nI (v * 10) from pk_mul v 10, sh_b1_s (p_load (rn := 20) (by omega) (by omega)), sh_b2_s rfl, if_neg (by decide), sh_b1_s rfl, sh_b4_s e7, sh_b1_s e8, va_up_self, sh_b1_s (p_nodes8 PN)]
      refine ⟨_, _, _, _, _, _, rfl, rfl, k, w, h, s2', tn, 0, sn, ?_, ⟨t1, ?_, ?_, ?_⟩, ⟨by omega, ?_, pk_us, fun i hi => absurd hi (Nat.not_lt_zero i)⟩, ?_, ⟨s1, ?_, ?_, ?_⟩, sd, ?_⟩
      · rw [va_up_self, pk_un (by omega), pk_un (by omega), pk_un (by omega), pk_un (by omega), pk_un (by omega), pk_un (by omega), va_up_ne _ _ (show 0 ≠ 2 by omega), va_up_self]; exact HY
      · rw [pk_un (by omega), pk_un (by omega)]; exact t2
      · rw [pk_un (by omega), pk_un (by omega)]; exact t3
      · rw [va_up_ne _ _ (by omega), va_up_ne _ _ (by omega)]; exact t4
      · rw [pk_un (by omega), pk_us]; rfl
      · rw [va_up_ne _ _ (by omega), va_up_ne _ _ (by omega), va_up_ne _ _ (by omega), va_up_ne _ _ (by omega), va_up_ne _ _ (by omega)]; exact kp
      · rw [pk_un (by omega), pk_un (by omega)]; exact s2
      · rw [pk_un (by omega), pk_un (by omega)]; exact s3
      · rw [va_up_ne _ _ (by omega), va_up_ne _ _ (by omega), va_up_ne _ _ (by omega), va_up_ne _ _ (by omega), va_up_ne _ _ (by omega), va_up_ne _ _ (by omega)]; exact s4
      · rw [pk_un (by omega), pk_us]
  · rw [sh_b1_s e, if_pos rfl]
    have hc : (if x < 0 then some (0 : Int32) else if 2 ≤ x then some 0 else some 1) = some 0 := by
      by_cases z : x < 0
      · rw [if_pos z]
      · rw [if_neg z, if_pos]
        rw [Int32.lt_iff_toInt_lt, show Int32.toInt 0 = 0 from rfl] at z
        rw [Int32.le_iff_toInt_le, show Int32.toInt 2 = 2 from rfl]
        omega
    rw [sh_b1_s hc, if_pos rfl]
    exact ⟨_, _, _, _, _, _, rfl, rfl, HR⟩
theorem s_see (HS : Sim I J A B I2 S A2) (x1 x2 x3 : Int32) : ∃ o I' A' I2' A2', fX7_see I A x1 x2 x3 = some (o, I', A') ∧ fX8_see I2 A2 x1 x2 x3 = some (o, I2', A2') ∧ Sim I' J A' B I2' S A2' := by
  obtain ⟨k, w, h, sh, tn, dn, sn, H⟩ := HS
  have HR := H.r.s
  have h36 := H.1.1.n36
  have hd1 := dot_sp H.1 rfl x1
  have hd2 := dot_sp H.1 rfl x2
  obtain ⟨p, ⟨t1, t2, t3, t4⟩, ⟨d1, d2, d3, d4⟩, kp, ⟨s1, s2, s3, s4⟩, sd, th⟩ := H
  unfold fX7_see fX8_see fX3_size
  rcases hd1 with ⟨a, ha, rfl, e1, e2⟩ | ⟨e1, e2⟩
  · rw [sh_b1_s e1, sh_b1_s e2, if_neg (by decide), if_pos rfl]
    rcases hd2 with ⟨b, hb, rfl, e3, e4⟩ | ⟨e3, e4⟩
    · rw [sh_b1_s e3, sh_b1_s e4, if_neg (by decide), if_pos rfl]
      have hadd : ∀ c : Bool, x3 = z01 c → ∃ o I' A' I2' A2', (sh_b5 (fX3_add (A 4) (A 5) (A 6) (I 7) (nI a) (nI b) x3) fun v9 u10 u11 u12 u13 => if v9 = 0 then some (-4, upd I 7 u13, va_up (va_up (va_up A 4 u10) 5 u11) 6 u12) else sh_b1 (some u13) fun v16 => some (v16, upd I 7 u13, va_up (va_up (va_up A 4 u10) 5 u11) 6 u12)) = some (o, I', A') ∧ (if (I2 3) = 6 then some ((-4, upd I2 0 0, A2)) else sh_b1 (sh_ast (A2 8) 6 (I2 3) (nI a)) fun f11 => sh_b1 (sh_ast (A2 9) 6 (I2 3) (nI b)) fun f12 => sh_b1 (sh_ast (A2 10) 6 (I2 3) x3) fun f13 => some ((I2 3) + 1, upd (upd I2 0 0) 3 ((I2 3) + 1), va_up (va_up (va_up A2 8 f11) 9 f12) 10 f13)) = some (o, I2', A2') ∧ Sim I' J A' B I2' S A2' := fun c hc => by
        unfold fX3_add
        rw [s2, s3, if_neg (nI_pos (by omega))]
        rcases Nat.lt_or_ge sn 6 with q | q
        · rw [if_pos (show nI sn < 6 from nI_lt (b := 6) q (by omega)), if_neg (show ¬ nI sn = 6 from fun z => by have := (nI_eq (b := 6) (by omega) (by omega)).mp z; omega), sh_b1_s (sh_ast_n q (by omega)), sh_b1_s (sh_ast_n q (by omega)), sh_b1_s (sh_astZ_n q (by omega)), sh_b5_s rfl, if_neg (by decide), sh_b1_s rfl, sh_b1_s (sh_ast_n q (by omega)), sh_b1_s (sh_ast_n q (by omega)), sh_b1_s (sh_ast_n q (by omega)), nI_1]
          refine ⟨_, _, _, _, _, rfl, rfl, k, w, h, sh, tn, dn, sn + 1, ?_, ⟨t1, ?_, ?_, ?_⟩, ⟨d1, ?_, ?_, ?_⟩, ?_, ⟨by omega, pk_us, pk_us, ?_⟩, sd, ?_⟩
          · rw [pk_un (by omega), pk_un (by omega), pk_un (by omega), va_up_ne _ _ (by omega), va_up_ne _ _ (by omega), va_up_ne _ _ (by omega)]; exact p
          · rw [pk_un (by omega)]; exact t2
          · rw [pk_un (by omega), pk_un (by omega)]; exact t3
          · rw [va_up_ne _ _ (by omega), va_up_ne _ _ (by omega), va_up_ne _ _ (by omega), va_up_ne _ _ (by omega), va_up_ne _ _ (by omega), va_up_ne _ _ (by omega)]; exact t4
          · rw [pk_un (by omega)]; exact d2
          · rw [pk_un (by omega), pk_un (by omega)]; exact d3
          · rw [va_up_ne _ _ (by omega), va_up_ne _ _ (by omega), va_up_ne _ _ (by omega)]; exact d4
          · rw [va_up_ne _ _ (by omega), va_up_ne _ _ (by omega), va_up_ne _ _ (by omega), va_up_ne _ _ (by omega), va_up_ne _ _ (by omega), va_up_ne _ _ (by omega), va_up_ne _ _ (by omega), va_up_ne _ _ (by omega), va_up_ne _ _ (by omega)]; exact kp
          · rw [va_up_ne _ _ (show 4 ≠ 6 by omega), va_up_ne _ _ (show 4 ≠ 5 by omega), va_up_self, va_up_ne _ _ (show 5 ≠ 6 by omega), va_up_self, va_up_self, va_up_ne _ _ (show 8 ≠ 10 by omega), va_up_ne _ _ (show 8 ≠ 9 by omega), va_up_self, va_up_ne _ _ (show 9 ≠ 10 by omega), va_up_self, va_up_self]
            have hnar : vp_nar .boolean x3 = x3 := by rw [hc]; cases c <;> decide
            intro j hj
            by_cases z : j = sn
            · subst z
              rw [pk_us, pk_us, pk_us, pk_us, pk_us, pk_us, hnar]
              exact ⟨⟨rfl, rfl, rfl⟩, a, b, c, by omega, by omega, rfl, rfl, hc⟩
            · rw [pk_un z, pk_un z, pk_un z, pk_un z, pk_un z, pk_un z]
              exact s4 j (by omega)
          · rw [pk_un (by omega), pk_us]
        · obtain rfl : sn = 6 := by omega
          rw [if_neg (show ¬ nI 6 < 6 from nI_nlt (a := 6) (b := 6) (by omega) (by omega)), if_pos (show nI 6 = 6 from rfl), sh_b5_s rfl, if_pos rfl, upd_id s2, va_up_id]
          refine ⟨_, _, _, _, _, rfl, rfl, ?_⟩
          rw [va_up_id, va_up_id]
          exact HR
      rcases in_sp x3 (a := 0) (b := 1) (na := 0) (nb := 1) rfl rfl (by omega) with ⟨v, -, hv, rfl, e⟩ | ⟨e, q⟩
      · rw [sh_b1_s e, if_neg z10]
        by_cases z : v = 1
        · subst z
          rw [if_neg (show ¬ nI 1 = 0 by decide), if_pos (show nI 1 = 1 from rfl), if_pos (show nI 1 = 1 from rfl)]
          exact hadd true rfl
        · obtain rfl : v = 0 := by omega
          rw [if_pos (show nI 0 = 0 from rfl), if_neg (show ¬ nI 0 = 1 by decide)]
          exact hadd false rfl
      · have h0 : ¬ x3 = 0 := fun z => by rw [z, show Int32.toInt 0 = 0 from rfl] at q; omega
        have h1 : ¬ x3 = 1 := fun z => by rw [z, show Int32.toInt 1 = 1 from rfl] at q; omega
        rw [sh_b1_s e, if_pos rfl, if_neg h0, if_neg h1]
        exact ⟨_, _, _, _, _, rfl, rfl, HR⟩
    · rw [sh_b1_s e3, sh_b1_s e4, if_pos rfl, if_neg (by decide)]
      exact ⟨_, _, _, _, _, rfl, rfl, HR⟩
  · rw [sh_b1_s e1, sh_b1_s e2, if_pos rfl, if_neg (by decide)]
    exact ⟨_, _, _, _, _, rfl, rfl, HR⟩
end
/-! a picture hangs together -/
theorem adj_left : ∀ k, (k = 4 ∨ k = 8) → ∀ w, w < 7 → ∀ i, i < 36 → 0 < w → 0 < i % w → zadj k w (i - 1) i = true := by
  intro k hk
  rcases hk with rfl | rfl
  · decide +kernel
  · decide +kernel
theorem adj_up : ∀ k, (k = 4 ∨ k = 8) → ∀ w, w < 7 → ∀ i, i < 36 → 0 < w → w ≤ i → zadj k w (i - w) i = true := by
  intro k hk
  rcases hk with rfl | rfl
  · decide +kernel
  · decide +kernel
theorem zc_all {k w h : Nat} (hk : k = 4 ∨ k = 8) (hw : 1 ≤ w ∧ w ≤ 6) (hn : w * h ≤ 36) : ∀ n i, i ≤ n → i < w * h → zc k w (fun i => decide (i < w * h)) 0 i := by
  intro n
  induction n with
  | zero =>
    intro i hi hl
    obtain rfl : i = 0 := by omega
    exact zc_refl (decide_eq_true hl)
  | succ n ih =>
    intro i hi hl
    by_cases q : i = 0
    · subst q; exact zc_refl (decide_eq_true hl)
    · by_cases q2 : 0 < i % w
      · exact zc_step (ih (i - 1) (by omega) (by omega)) (decide_eq_true hl) (adj_left k hk w (by omega) i (by omega) (by omega) q2)
      · have hwi : w ≤ i := Nat.le_of_not_lt fun z => by rw [Nat.mod_eq_of_lt z] at q2; omega
        exact zc_step (ih (i - w) (by omega) (by omega)) (decide_eq_true hl) (adj_up k hk w (by omega) i (by omega) (by omega) hwi)
theorem zC_0 {p : Nat → Int32} {k w h : Nat} {sh : Nat → Nat} (H : Pic p k w h sh) {d : Nat} (hd : d < w * h) : zC k w h sh 0 d = fun i => decide (i < w * h) := by
  have hu : up (w * h) sh 0 = fun i => decide (i < w * h) := funext fun i => by unfold up; simp
  funext i
  apply Bool.eq_iff_iff.mpr
  rw [decide_eq_true_iff]
  constructor
  · exact fun z => zC_lt z
  · intro z
    unfold zC
    rw [hu]
    exact zp_iff.mpr (zc_trans (zc_symm (zc_all H.kk H.ww H.n36 d d (Nat.le_refl _) hd)) (zc_all H.kk H.ww H.n36 i i (Nat.le_refl _) z))
theorem p_joined7 {p : Nat → Int32} {gw gd gh : Int32} {ga gl gr : Int64} {sL : Nat → Int64} {k w h K : Nat} {sh : Nat → Nat} (H : Sys p gw gd gh ga gl gr sL k w h sh) (hK : K = 4 ∨ K = 8) {T : Nat → Bool} (hT : ∀ i, T i = true → i < w * h) {a b : Nat} (ha : a < w * h) (hb : b < w * h) : fX1_joined gd gh gl gr (zs T) (nI a) (nI b) (nI K) = some (z01 (zp K w T a b)) := by
  have h36 := H.1.n36
  unfold fX1_joined
  rw [sh_b1_s (p_hasDot H.2.1.2.1 H.2.1.2.2.1 (by omega) ha), if_neg (by decide), sh_b1_s (p_hasDot H.2.1.2.1 H.2.1.2.2.1 (by omega) hb), if_neg (by decide), zs_bit (show a < 36 by omega), sh_b1_s (p_around7 H.2.1 hK hT), zq_one, zs_bit (show b < 36 by omega), zs_and]
  have hP36 : ∀ i, (zp K w T a i && decide (i = b)) = true → i < 36 := fun i hi => by
    rw [Bool.and_eq_true] at hi
    rw [of_decide_eq_true hi.2]; omega
  cases hz : zp K w T a b with
  | false =>
    rw [if_pos ((zs_0 hP36).mpr (fun i => by by_cases q : i = b; · rw [q, hz]; rfl
                                             · rw [decide_eq_false q, Bool.and_false]))]; rfl
  | true =>
    rw [if_neg (fun z => by have := (zs_0 hP36).mp z b; rw [hz, decide_eq_true rfl] at this; exact nomatch this)]; rfl
