/-! a picture is taken from a text -/
theorem s_fault {I : Nat → Int32} {J : Nat → Int64} {A : Nat → Nat → Int32} {B : Nat → Nat → Int64} {I2 : Nat → Int32} {S : Int64} {A2 : Nat → Nat → Int32} (HS : Sim I J A B I2 S A2) : ∃ o I2' A2', fX7_fault I A = some o ∧ fX8_fault I2 S A2 = some (o, I2', A2') ∧ Sim I J A B I2' S A2' := by
  obtain ⟨k, w, h, sh, tn, dn, sn, H⟩ := HS
  obtain ⟨t1, t2, t3, t4⟩ := H.2.1
  obtain ⟨o, f, e1, e2, -⟩ := p_read (S := S) (I2 := upd I2 0 0) (by rw [pk_un (by omega)]; exact t3) t1 t4
  unfold fX7_fault fX8_fault
  rw [t2, sh_b1_s e1, sh_b2_s e2]
  exact ⟨_, _, _, rfl, rfl, (H.r.same (fun _ _ _ => rfl) (fun _ _ _ => rfl) (fun _ _ _ _ => rfl) (fun _ _ _ _ _ _ => rfl) pk_us (fun j h1 _ _ _ => va_up_ne _ _ h1)).s⟩
theorem p_pict_L {I : Nat → Int32} {A : Nat → Nat → Int32} {tn k w h : Nat} {sh : Nat → Nat} (hT : Txt (A 0) tn k w h sh) (h9 : ∀ d, d < w * h → sh d ≤ 9) (h36 : w * h ≤ 36) (hI2 : I 2 = nI w) (hI3 : I 3 = nI h) : ∀ (r n d : Nat) (B : Nat → Nat → Int64), d + r = w * h → r < n → Lev (B 0) (w * h) (fun i => if i < d then sh i else 0) → ∃ L, fX7_picture_L55 n (nI d) I A B = some (va_up B 0 L) ∧ Lev L (w * h) sh := by
  intro r
  induction r with
  | zero =>
    intro n d B hd hn HL
    obtain ⟨n, rfl⟩ : ∃ m, n = m + 1 := ⟨n - 1, by omega⟩
    obtain rfl : d = w * h := by omega
    rw [fX7_picture_L55_s]
    unfold fX1_size
    rw [sh_b1_s rfl, hI2, hI3, pk_mul, if_pos (nI_le (Nat.le_refl _) (by omega))]
    exact ⟨B 0, by rw [va_up_id], HL.congs (fun i hi => if_pos hi)⟩
  | succ r ih =>
    intro n d B hd hn HL
    obtain ⟨n, rfl⟩ : ∃ m, n = m + 1 := ⟨n - 1, by omega⟩
    have hdn : d < w * h := by omega
    have hf : fX5_figure (A 0) (nI (4 + d)) = some (nI (48 + sh d) - 48) := p_fig (by omega) (hT.2.2.2.2 d hdn)
    obtain ⟨L1, e1, H1⟩ := p_set7 h36 hdn (h9 d hdn) HL
    rw [fX7_picture_L55_s]
    unfold fX1_size
    rw [sh_b1_s rfl, hI2, hI3, pk_mul, if_neg (nI_ge (by omega) (by omega)), show (4 : Int32) + nI d = nI (4 + d) from nI_add 4 d, sh_b1_s hf, show nI (48 + sh d) - 48 = nI (sh d) from by rw [show (48 : Int32) = nI 48 from rfl, pk_sub (by omega), Nat.add_sub_cancel_left], sh_b1_s e1, nI_1]
    obtain ⟨L, e2, H2⟩ := ih n (d + 1) (va_up B 0 L1) (by omega) (by omega) (by
      rw [va_up_self]
      refine H1.congs (fun i hi => ?_)
      by_cases q : i = d
      · rw [if_pos q, if_pos (by omega), q]
      · rw [if_neg q]
        by_cases q2 : i < d
        · rw [if_pos q2, if_pos (by omega)]
        · rw [if_neg q2, if_neg (by omega)])
    rw [va_up_up] at e2
    exact ⟨L, e2, H2⟩
theorem p_clear4 (kU : Nat → Int32) : ∃ u, fX4_clear kU = some u ∧ u 0 = 0 ∧ u 1 = 0 := by
  unfold fX4_clear
  have hfu : sh_fu = 1997 + 1 + 1 + 1 := rfl
  have e : fX4_clear_L2 sh_fu 0 kU = some (upd (upd kU 0 (vp_nar .boolean 0)) 1 (vp_nar .boolean 0)) := by
    rw [hfu, fX4_clear_L2_s, if_neg (show ¬ (2 : Int32) ≤ 0 by decide), show (0 : Int32) = nI 0 from rfl, sh_b1_s (sh_astZ_n (by omega) (by omega)), nI_1, fX4_clear_L2_s, if_neg (show ¬ (2 : Int32) ≤ nI (0 + 1) by decide), sh_b1_s (sh_astZ_n (by omega) (by omega)), nI_1, fX4_clear_L2_s, if_pos (show (2 : Int32) ≤ nI (0 + 1 + 1) by decide)]
    rfl
  rw [sh_b1_s e]
  refine ⟨_, rfl, ?_, ?_⟩
  · rw [pk_un (by omega), pk_us]; exact z_nar0
  · rw [pk_us]; exact z_nar0
theorem s_picture {I : Nat → Int32} {J : Nat → Int64} {A : Nat → Nat → Int32} {B : Nat → Nat → Int64} {I2 : Nat → Int32} {S : Int64} {A2 : Nat → Nat → Int32} (HS : Sim I J A B I2 S A2) : ∃ o I' J' A' B' I2' A2', fX7_picture I J A B = some (o, I', J', A', B') ∧ fX8_picture I2 S A2 = some (o, I2', A2') ∧ Sim I' J' A' B' I2' S A2' := by
  obtain ⟨k0, w0, h0, sh0, tn, dn, sn, H⟩ := HS
  obtain ⟨p, ⟨t1, t2, t3, t4⟩, ⟨d1, d2, d3, d4⟩, kp, ⟨s1, s2, s3, s4⟩, sd, th⟩ := id H
  obtain ⟨o, f, e1, e2, e3⟩ := p_read (S := S) (I2 := upd I2 0 0) (by rw [pk_un (by omega)]; exact t3) t1 t4
  unfold fX7_picture fX8_picture fX0_clear
  rw [t2, sh_b1_s e1, sh_b2_s e2]
  rcases e3 with ⟨rfl, k, w, h, sh, hT, P⟩ | ⟨x, hx, rfl⟩
  · have h36 := P.n36
    have hn0 := P.n0
    obtain ⟨ga, gl, gr, el, HL⟩ := p_lay P.kk P.ww P.hh
    obtain ⟨L0, ed, H0⟩ := p_darken7 HL.2.2.2.1 (B 0)
    obtain ⟨L, es, H1⟩ := p_pict_L (I := upd (upd (upd I 1 (nI k)) 2 (nI w)) 3 (nI h)) hT (fun d hd => P.sh9 hd) h36 (by rw [pk_un (by omega), pk_us]) pk_us (w * h) sh_fu 0 (va_up B 0 L0) (by omega) (by unfold sh_fu; omega) (by rw [va_up_self]; exact H0.congs (fun i _ => (if_neg (Nat.not_lt_zero i)).symm))
    rw [nI_0, va_up_up] at es
    obtain ⟨u, eu, u0, u1⟩ := p_clear4 (A 3)
    have HY : Sys f (nI k) (nI w) (nI h) ga gl gr L k w h sh := ⟨P, HL, H1⟩
    obtain ⟨a, b, z, en⟩ := p_nodes7 HY (B 2) (A 1)
    obtain ⟨g, eg, g1, g2⟩ := p_picture_L19 39 sh_fu 0 (va_up A2 1 f) (by omega) (by unfold sh_fu; omega)
    rw [nI_0] at eg
    rw [va_up_self] at g1
    have PG : Pic g k w h sh := P.congp (fun j hj => by rw [show g j = g (0 + j) by rw [Nat.zero_add]]; rw [Nat.zero_add]; exact (g1 j (by omega) hj).symm)
    have f1 : fX5_figure (A 0) 1 = some (nI k) := by
      rw [show fX5_figure (A 0) 1 = some (nI (48 + k) - 48) from p_fig (i := 1) (by omega) hT.2.1, show (48 : Int32) = nI 48 from rfl, pk_sub (by omega), Nat.add_sub_cancel_left]
    have f2 : fX5_figure (A 0) 2 = some (nI w) := by
      rw [show fX5_figure (A 0) 2 = some (nI (48 + w) - 48) from p_fig (i := 2) (by omega) hT.2.2.1, show (48 : Int32) = nI 48 from rfl, pk_sub (by omega), Nat.add_sub_cancel_left]
    have f3 : fX5_figure (A 0) 3 = some (nI h) := by
      rw [show fX5_figure (A 0) 3 = some (nI (48 + h) - 48) from p_fig (i := 3) (by omega) hT.2.2.2.1, show (48 : Int32) = nI 48 from rfl, pk_sub (by omega), Nat.add_sub_cancel_left]
    rw [if_pos rfl, if_pos rfl, sh_b1_s f1, sh_b1_s f2, sh_b1_s f3, sh_b6_s el, sh_b1_s ed, sh_b1_s es, sh_b1_s rfl, sh_b1_s eu, va_up_self, va_up_ne _ _ (show 2 ≠ 0 by omega), sh_b4_s en, sh_b1_s eg, va_up_ne _ _ (show 7 ≠ 2 by omega), va_up_ne _ _ (show 7 ≠ 1 by omega)]
    rw [show sh_astZ (A2 7) 2 0 0 = some (upd (A2 7) 0 (vp_nar .boolean 0)) from sh_astZ_n (j := 0) (by omega) (by omega), sh_b1_s rfl, show sh_astZ (upd (A2 7) 0 (vp_nar .boolean 0)) 2 1 0 = some (upd (upd (A2 7) 0 (vp_nar .boolean 0)) 1 (vp_nar .boolean 0)) from sh_astZ_n (j := 1) (by omega) (by omega), sh_b1_s rfl, va_up_self, sh_b1_s (p_nodes8 PG), va_up_up]
    refine ⟨_, _, _, _, _, _, _, rfl, rfl, k, w, h, sh, tn, 0, sn, ⟨?_, ?_, ?_⟩, ⟨t1, ?_, ?_, ?_⟩, ⟨by omega, ?_, pk_us, fun i hi => absurd hi (Nat.not_lt_zero i)⟩, ?_, ⟨s1, ?_, ?_, ?_⟩, ?_, ?_⟩
    · rw [va_up_ne _ _ (show 2 ≠ 7 by omega), va_up_self]; exact PG
    · rw [pk_un (show 1 ≠ 4 by omega), pk_un (show 1 ≠ 6 by omega), pk_un (show 1 ≠ 3 by omega), pk_un (show 1 ≠ 2 by omega), pk_us, pk_un (show 2 ≠ 4 by omega), pk_un (show 2 ≠ 6 by omega), pk_un (show 2 ≠ 3 by omega), pk_us, pk_un (show 3 ≠ 4 by omega), pk_un (show 3 ≠ 6 by omega), pk_us, pk_uLn (show 0 ≠ 2 by omega), pk_uLn (show 0 ≠ 1 by omega), pk_uLs, pk_uLn (show 1 ≠ 2 by omega), pk_uLs, pk_uLs]; exact HL
    · rw [va_up_ne _ _ (show 0 ≠ 2 by omega), va_up_self]; exact H1
    · rw [pk_un (by omega), pk_un (by omega), pk_un (by omega), pk_un (by omega), pk_un (by omega)]; exact t2
    · rw [pk_un (by omega), pk_un (by omega)]; exact t3
    · rw [va_up_ne _ _ (by omega), va_up_ne _ _ (by omega), va_up_ne _ _ (by omega), va_up_ne _ _ (by omega), va_up_ne _ _ (by omega)]; exact t4
    · rw [pk_un (by omega), pk_us]; rfl
    · rw [va_up_ne _ _ (show 3 ≠ 1 by omega), va_up_self, va_up_ne _ _ (show 5 ≠ 2 by omega), va_up_ne _ _ (show 5 ≠ 0 by omega), va_up_self]
      have us : ∀ s, s < 2 → u s = 0 := fun s hs => by
        rcases Nat.lt_or_ge s 1 with q | q
        · rw [show s = 0 by omega]; exact u0
        · rw [show s = 1 by omega]; exact u1
      intro s hs
      refine ⟨?_, fun q => absurd (us s hs) q⟩
      rw [us s hs]
      rcases Nat.lt_or_ge s 1 with q | q
      · rw [show s = 0 by omega, pk_un (by omega), pk_us, z_nar0]
      · rw [show s = 1 by omega, pk_us, z_nar0]
    · rw [pk_un (by omega), pk_un (by omega), pk_un (by omega), pk_un (by omega), pk_un (by omega)]; exact s2
    · rw [pk_un (by omega), pk_un (by omega)]; exact s3
    · intro j hj
      have := s4 j hj
      rw [va_up_ne _ _ (show 4 ≠ 1 by omega), va_up_ne _ _ (show 4 ≠ 3 by omega), va_up_ne _ _ (show 5 ≠ 1 by omega), va_up_ne _ _ (show 5 ≠ 3 by omega), va_up_ne _ _ (show 6 ≠ 1 by omega), va_up_ne _ _ (show 6 ≠ 3 by omega), va_up_ne _ _ (show 8 ≠ 7 by omega), va_up_ne _ _ (show 8 ≠ 2 by omega), va_up_ne _ _ (show 8 ≠ 1 by omega), va_up_ne _ _ (show 9 ≠ 7 by omega), va_up_ne _ _ (show 9 ≠ 2 by omega), va_up_ne _ _ (show 9 ≠ 1 by omega), va_up_ne _ _ (show 10 ≠ 7 by omega), va_up_ne _ _ (show 10 ≠ 2 by omega), va_up_ne _ _ (show 10 ≠ 1 by omega)]
      exact this
    · rw [pk_uLn (by omega), pk_uLn (by omega), pk_uLn (by omega)]; exact sd
    · rw [pk_un (by omega), pk_us]
  · rw [if_neg (z_ne9 x (by omega)), if_neg (z_ne9 x (by omega))]
    exact ⟨_, _, _, _, _, _, _, rfl, rfl, (H.r.same (fun _ _ _ => rfl) (fun _ _ _ => rfl) (fun _ _ _ _ => rfl) (fun _ _ _ _ _ _ => rfl) pk_us (fun j h1 _ _ _ => va_up_ne _ _ h1)).s⟩
