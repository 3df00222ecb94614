/-! one doing in a trial, both sides -/
theorem p_doing {I : Nat → Int32} {J : Nat → Int64} {A : Nat → Nat → Int32} {B : Nat → Nat → Int64} {A2 : Nat → Nat → Int32} {k w h : Nat} {sh : Nat → Nat} (H : Sys (A2 3) (I 1) (I 2) (I 3) (J 0) (J 1) (J 2) (B 1) k w h sh) {v : Nat} (hv : v < 10000) : ∃ b sh' L A2', fX7_comesTrue I J A B (nI (v / 1000)) (nI (v / 10 % 100)) (nI (v % 10)) = some (z01 b, va_up B 1 L) ∧ fX8_does A2 (nI v) = some (z01 b, A2') ∧ (∀ j, j ≠ 3 → j ≠ 4 → A2' j = A2 j) ∧ Sys (A2' 3) (I 1) (I 2) (I 3) (J 0) (J 1) (J 2) L k w h sh' := by
  have h36 := H.1.n36
  have hn0 := H.1.n0
  have hK : v / 1000 < 10 := by omega
  have hD : v / 10 % 100 < 100 := Nat.mod_lt _ (by omega)
  have hE : v % 10 < 10 := Nat.mod_lt _ (by omega)
  have hvd : v = 1000 * (v / 1000) + 10 * (v / 10 % 100) + v % 10 := by omega
  obtain ⟨c1, c2, c3⟩ := p_code hv
  have same : ∀ (b : Bool), ∃ b' sh' L A2', some (z01 b, B) = some (z01 b', va_up B 1 L) ∧ some (z01 b, A2) = some (z01 b', A2') ∧ (∀ j, j ≠ 3 → j ≠ 4 → A2' j = A2 j) ∧ Sys (A2' 3) (I 1) (I 2) (I 3) (J 0) (J 1) (J 2) L k w h sh' := fun b => ⟨b, sh, B 1, A2, by rw [va_up_id], rfl, fun _ _ _ => rfl, H⟩
  unfold fX7_comesTrue fX8_does
  rw [c2, c3, c1]
  generalize v / 1000 = K at *
  generalize v / 10 % 100 = D at *
  generalize v % 10 = E at *
  have kn : ∀ m : Nat, m < 10 → K ≠ m → ¬ nI K = nI m := fun m hm q z => q ((nI_eq (by omega) (by omega)).mp z)
  have hdot : D < w * h → fX1_hasDot (I 2) (I 3) (nI D) = some 1 := fun q => p_hasDot H.2.1.2.1 H.2.1.2.2.1 (by omega) q
  have hnod : ¬ D < w * h → fX1_hasDot (I 2) (I 3) (nI D) = some 0 := fun q => p_hasDot0 H.2.1.2.1 H.2.1.2.2.1 (Or.inr (nI_le (by omega) (by omega)))
  by_cases q : K = 1
  · subst q
    rw [if_pos (show nI 1 = 1 from rfl), if_pos (show nI 1 = 1 from rfl), sh_b1_s H.1.dots, sh_b1_s H.1.dots]
    unfold fX7_trialPainted
    by_cases qd : D < w * h
    · obtain ⟨L, e, HL⟩ := p_set7 h36 qd (show E ≤ 9 by omega) H.2.2
      have P2 := H.1.paint (d := D) (v := E) (by omega)
      rw [sh_b1_s (hdot qd), if_neg z10, sh_b1_s e, sh_b2_s rfl, if_neg (nI_ge qd (by omega)), sh_b1_s (H.1.stp qd _), sh_b1_s P2.dots, if_neg (nI_ge qd (by omega))]
      exact ⟨true, _, L, _, rfl, rfl, fun j h3 _ => va_up_ne _ _ h3, by rw [va_up_self]; exact ⟨P2, H.2.1, HL⟩⟩
    · rw [sh_b1_s (hnod qd), if_pos rfl, sh_b2_s rfl, if_pos (nI_le (by omega) (by omega)), if_pos (nI_le (by omega) (by omega))]
      exact same false
  rw [if_neg (show ¬ nI K = 1 from kn 1 (by omega) q), if_neg (show ¬ nI K = 1 from kn 1 (by omega) q)]
  by_cases q : K = 2
  · subst q
    rw [if_pos (show nI 2 = 2 from rfl), if_pos (show nI 2 = 2 from rfl)]
    by_cases q0 : v = 2000
    · obtain ⟨L, e, HL⟩ := p_turn7 h36 H.2.1.2.2.2.1 H.sh9 H.2.2
      obtain ⟨p2, e2, P2⟩ := p_neg8 H.1
      have hD0 : D = 0 := by omega
      have hE0 : E = 0 := by omega
      unfold fX7_trialTurned
      rw [if_pos (show nI v = 2000 by rw [q0]; rfl), if_pos (show nI D = 0 by rw [hD0]; rfl), if_pos (show nI E = 0 by rw [hE0]; rfl), sh_b1_s e, sh_b2_s rfl, if_neg z10, sh_b1_s e2, if_pos (show nI v = 2000 by rw [q0]; rfl)]
      exact ⟨true, _, L, _, rfl, rfl, fun j h3 _ => va_up_ne _ _ h3, by rw [va_up_self]; exact ⟨P2, H.2.1, HL⟩⟩
    · have hv2 : ¬ nI v = 2000 := fun z => q0 ((nI_eq (b := 2000) (by omega) (by omega)).mp z)
      rw [if_neg hv2, if_neg hv2]
      by_cases qd : D = 0
      · rw [if_pos (show nI D = 0 by rw [qd]; rfl), if_neg (show ¬ nI E = 0 from nI_ne0 (by omega) (by omega))]
        exact same false
      · rw [if_neg (show ¬ nI D = 0 from nI_ne0 (by omega) (by omega))]
        exact same false
  rw [if_neg (show ¬ nI K = 2 from kn 2 (by omega) q), if_neg (show ¬ nI K = 2 from kn 2 (by omega) q)]
  have hsift : ∀ (kd : Bool), (∃ m0, IsM0 (w * h) sh m0) → (fX7_isSieve (z01 kd) (nI D) = some 1 → ∃ b' sh' L A2', (sh_b2 (sh_b2 (fX2_thin (I 1) (I 2) (I 3) (J 0) (J 1) (J 2) (B 1) (z01 kd) (nI D)) fun _ u5 => some ((1 : Int32), va_up B 1 u5)) fun v41 u42 => if v41 = 0 then some ((0 : Int32), u42) else some (1, u42)) = some (z01 b', va_up B 1 L) ∧ (sh_b2 (fX8_goSift_t A2 (z01 kd) (nI D)) fun _ u36 => some ((1 : Int32), u36)) = some (z01 b', A2') ∧ (∀ j, j ≠ 3 → j ≠ 4 → A2' j = A2 j) ∧ Sys (A2' 3) (I 1) (I 2) (I 3) (J 0) (J 1) (J 2) L k w h sh') := fun kd hm0 hs => by
    obtain ⟨m0, hm0⟩ := hm0
    have hD36 : D ≤ 36 := by
      rcases sieve_sp (z01 kd) (nI D) with ⟨kd', m, hm, -, e, -⟩ | ⟨e, -⟩
      · have := (nI_eq (by omega) (by omega)).mp e
        omega
      · rw [hs] at e
        exact absurd (Option.some.inj e) z10
    obtain ⟨L, e5, L5⟩ := p_thin H.2.1 H.2.2 H.sh9 kd hD36 hm0
    obtain ⟨A3, e6, P6, r6⟩ := p_goSift_t (A := A2) H.1 kd hD36 hm0
    rw [sh_b2_s e5, sh_b2_s rfl, if_neg z10, sh_b2_s e6]
    exact ⟨true, _, L, A3, rfl, rfl, r6, P6, H.2.1, L5⟩
  by_cases q : K = 3
  · subst q
    rw [if_pos (show nI 3 = 3 from rfl), if_pos (show nI 3 = 3 from rfl)]
    by_cases qe : E = 0
    · rw [if_pos (show nI E = 0 by rw [qe]; rfl), if_pos (show nI E = 0 by rw [qe]; rfl), if_pos (show nI 3 = 3 from rfl), show nI 3 - 3 = z01 false from rfl]
      unfold fX7_trialThinned
      rw [show (0 : Int32) = z01 false from rfl]
      rcases sieve_sp (z01 false) (nI D) with ⟨kd, m, hm, ek, em, e1, e2, e3, e4⟩ | ⟨e1, e2⟩
      · have hkd : kd = false := by cases kd with | false => rfl | true => exact absurd ek (by decide)
        rw [sh_b1_s e1, if_neg (show ¬ (1 : Int32) = z01 false by decide), sh_b1_s (e3 hkd), if_neg (show ¬ (1 : Int32) = z01 false by decide)]
        exact hsift false (ex_m0 hn0) e1
      · have hin : fX8_in (Int32.toInt64 (nI D)) 1 36 = some 0 := by
          rcases e2 with e2 | ⟨kd, ek, -, e3, -⟩
          · exact absurd (e2.symm.trans (show fX8_in (Int32.toInt64 (z01 false)) 0 1 = some 1 by decide)) (by decide)
          · exact e3 (by cases kd with | false => rfl | true => exact absurd ek (by decide))
        rw [sh_b1_s e1, if_pos (show (0 : Int32) = z01 false from rfl), sh_b2_s rfl, if_pos rfl, sh_b1_s hin, if_pos (show (0 : Int32) = z01 false from rfl)]
        exact same false
    · rw [if_neg (show ¬ nI E = 0 from nI_ne0 (by omega) (by omega)), if_neg (show ¬ nI E = 0 from nI_ne0 (by omega) (by omega))]
      exact same false
  rw [if_neg (show ¬ nI K = 3 from kn 3 (by omega) q), if_neg (show ¬ nI K = 3 from kn 3 (by omega) q)]
  by_cases q4 : K = 4
  · subst q4
    rw [if_pos (show nI 4 = 4 from rfl), if_pos (show nI 4 = 4 from rfl)]
    by_cases qe : E = 0
    · rw [if_pos (show nI E = 0 by rw [qe]; rfl), if_pos (show nI E = 0 by rw [qe]; rfl), if_neg (show ¬ nI 4 = 3 by decide), show nI 4 - 3 = z01 true from rfl]
      unfold fX7_trialThinned
      rw [show (1 : Int32) = z01 true from rfl]
      rcases sieve_sp (z01 true) (nI D) with ⟨kd, m, hm, ek, em, e1, e2, e3, e4⟩ | ⟨e1, e2⟩
      · have hkd : kd = true := by cases kd with | true => rfl | false => exact absurd ek (by decide)
        rw [sh_b1_s e1, if_neg z10, sh_b1_s (e4 hkd), if_neg z10]
        exact hsift true (ex_m0 hn0) e1
      · have hin : fX8_in (Int32.toInt64 (nI D)) 1 6 = some 0 := by
          rcases e2 with e2 | ⟨kd, ek, -, -, e3⟩
          · exact absurd (e2.symm.trans (show fX8_in (Int32.toInt64 (z01 true)) 0 1 = some 1 by decide)) (by decide)
          · exact e3 (by cases kd with | true => rfl | false => exact absurd ek (by decide))
        rw [sh_b1_s e1, if_pos rfl, sh_b2_s rfl, if_pos rfl, show fX8_in (Int32.toInt64 (nI D)) (1 : Int64) 6 = some 0 from hin, sh_b1_s rfl, if_pos rfl]
        exact same false
    · rw [if_neg (show ¬ nI E = 0 from nI_ne0 (by omega) (by omega)), if_neg (show ¬ nI E = 0 from nI_ne0 (by omega) (by omega))]
      exact same false
  rw [if_neg (show ¬ nI K = 4 from kn 4 (by omega) q4), if_neg (show ¬ nI K = 4 from kn 4 (by omega) q4)]
  unfold fX8_isSo
  have hz : ∀ b : Bool, sh_zr (z01 b) = some (z01 b) := sh_zr_01
  by_cases q6 : K = 6
  · subst q6
    unfold fX1_way
    rw [if_neg (show ¬ nI 6 = 5 by decide), if_pos (show nI 6 = 6 from rfl), if_pos (show nI 6 = 6 from rfl), sh_b1_s (p_atLeast H.2.2 H.sh9 (by omega)), sh_b1_s rfl, H.2.1.1, sh_b1_s (p_countParts H.2.1 H.1.kk (fun i hi => up_lt hi)), sh_b1_s (p_partsOf1 H.1 (by omega))]
    by_cases qp : nI (zcnt k w (up (w * h) sh E)) < nI D
    · rw [if_pos qp, if_pos qp, sh_b1_s (show (some (0 : Int32)) = some (z01 false) from rfl), sh_b1_s (hz false), ← H.2.1.1]
      exact same false
    · rw [if_neg qp, if_neg qp, sh_b1_s (show (some (1 : Int32)) = some (z01 true) from rfl), sh_b1_s (hz true), ← H.2.1.1]
      exact same true
  rw [if_neg (show ¬ nI K = 6 from kn 6 (by omega) q6), if_neg (show ¬ nI K = 6 from kn 6 (by omega) q6), sh_b1_s H.1.dots]
  by_cases qd : D < w * h
  · obtain ⟨e, he⟩ := nd_dot (k := k) (sh := sh) qd
    have hn8 : fX8_nodeOf (A2 3) (nI D) = some (zs (zC k w h sh (sh D) D)) := p_nodeOf H.1 qd
    have hp := p_parent8 H.1 he
    have hN36 : ∀ i, zC k w h sh (sh D) D i = true → i < 36 := fun i hi => Nat.lt_of_lt_of_le (zC_lt hi) h36
    have h9 := H.sh9 D qd
    rw [if_pos (nI_lt qd (by omega)), sh_b1_s hn8, sh_b1_s hp, sh_b1_s (hdot qd), if_neg z10, sh_b1_s (p_nodeOf7 H qd), sh_b1_s (p_of H.2.2 h36 H.sh9 qd), sh_b1_s (p_parentLevel H he _ _ _), sh_b1_s (hdot qd), if_neg z10, sh_b1_s (p_nodeOf7 H qd), sh_b1_s (p_of H.2.2 h36 H.sh9 qd)]
    by_cases q5 : K = 5
    · subst q5
      rw [if_pos (show nI 5 = 5 from rfl), if_pos (show nI 5 = 5 from rfl)]
      unfold zpr
      cases hzp : zpl (fun t => zC k w h sh t e) (sh D) (sh D) with
      | none =>
        dsimp only
        rw [if_pos (show zs (zC k w h sh (sh D) e) = zs (zC k w h sh (sh D) D) by rw [← he.2]), show zlo none = -9 from rfl, if_neg (show ¬ (-9 : Int32) = nI E from fun z => z_ne9 E (by omega) z.symm), sh_b1_s (show (some (0 : Int32)) = some (z01 false) from rfl), sh_b1_s (hz false)]
        exact same false
      | some s =>
        dsimp only
        obtain ⟨e2, n1, n2, n3⟩ := nd_parent he hzp
        rw [if_neg (fun z => n2 (zs_inj (fun i hi => Nat.lt_of_lt_of_le (zC_lt hi) h36) hN36 z)), sh_b1_s (p_level8 H.1 n1.1), show zlo (some s) = nI s from rfl]
        by_cases qs : nI s = nI E
        · rw [if_pos qs, if_pos qs, sh_b1_s (show (some (1 : Int32)) = some (z01 true) from rfl), sh_b1_s (hz true)]
          exact same true
        · rw [if_neg qs, if_neg qs, sh_b1_s (show (some (0 : Int32)) = some (z01 false) from rfl), sh_b1_s (hz false)]
          exact same false
    rw [if_neg (show ¬ nI K = 5 from kn 5 (by omega) q5), if_neg (show ¬ nI K = 5 from kn 5 (by omega) q5)]
    by_cases q7 : K = 7
    · subst q7
      obtain ⟨b, hb, hm⟩ := ex_mx (n := w * h) (sh := sh) (S := zC k w h sh (sh D) D) (fun i hi => zC_lt hi) H.sh9 ⟨D, zC_self qd (Nat.le_refl _)⟩
      rw [if_pos (show nI 7 = 7 from rfl), if_pos (show nI 7 = 7 from rfl), sh_b1_s (p_rise7 H he hb hm _ _ _), sh_b1_s (p_rise8 H.1 he hb hm)]
      by_cases qs : zro (sh D) (zrs (fun t => zC k w h sh t e) sh b (sh D)) = nI E
      · rw [if_pos qs, if_pos qs, sh_b1_s (show (some (1 : Int32)) = some (z01 true) from rfl), sh_b1_s (hz true)]
        exact same true
      · rw [if_neg qs, if_neg qs, sh_b1_s (show (some (0 : Int32)) = some (z01 false) from rfl), sh_b1_s (hz false)]
        exact same false
    rw [if_neg (show ¬ nI K = 7 from kn 7 (by omega) q7), if_neg (show ¬ nI K = 7 from kn 7 (by omega) q7), sh_b1_s (show (some (0 : Int32)) = some (z01 false) from rfl), sh_b1_s (hz false)]
    exact same false
  · rw [if_neg (nI_nlt (by omega) (by omega)), sh_b1_s (hnod qd), if_pos rfl, sh_b1_s (hnod qd), if_pos rfl, sh_b1_s (show (some (0 : Int32)) = some (z01 false) from rfl), sh_b1_s (hz false)]
    by_cases q5 : nI K = 5
    · rw [if_pos q5]; exact same false
    rw [if_neg q5]
    by_cases q7 : nI K = 7
    · rw [if_pos q7]; exact same false
    rw [if_neg q7]
    exact same false
theorem p_judge_L {I : Nat → Int32} {J : Nat → Int64} {A : Nat → Nat → Int32} {I2 : Nat → Int32} {S : Int64} {k w h x a : Nat} (hx : x ≤ 4) (ha : a < 2 ^ 63) : ∀ (r n i : Nat) (B : Nat → Nat → Int64) (A2 : Nat → Nat → Int32) (sh : Nat → Nat), i + r = x → r < n → Sys (A2 3) (I 1) (I 2) (I 3) (J 0) (J 1) (J 2) (B 1) k w h sh → ∃ (o : Int32) (L : Nat → Int64) (A2' : Nat → Nat → Int32), sh_bs (fX7_judge_L43 n (nI x) (lN a) (nI i) I J A B) (fun t18 => some (-9, t18)) = some (o, va_up B 1 L) ∧ sh_bs (fX8_judge_L44 n (nI x) (lN a) (nI i) I2 S A2) (fun t21 => some (-9, I2, t21)) = some (o, I2, A2') ∧ ∀ j, j ≠ 3 → j ≠ 4 → A2' j = A2 j := by
  intro r
  induction r with
  | zero =>
    intro n i B A2 sh hi hn H
    obtain ⟨n, rfl⟩ : ∃ m, n = m + 1 := ⟨n - 1, by omega⟩
    obtain rfl : i = x := by omega
    rw [fX7_judge_L43_s, if_pos (nI_le (Nat.le_refl _) (by omega)), sh_bs_r rfl, fX8_judge_L44_s, if_pos (nI_le (Nat.le_refl _) (by omega)), sh_bs_r rfl]
    exact ⟨_, B 1, A2, by rw [va_up_id], rfl, fun _ _ _ => rfl⟩
  | succ r ih =>
    intro n i B A2 sh hi hn H
    obtain ⟨n, rfl⟩ : ∃ m, n = m + 1 := ⟨n - 1, by omega⟩
    have hi4 : x - 1 - i ≤ 4 := by omega
    have hq : a / 10000 ^ (x - 1 - i) < 2 ^ 63 := Nat.lt_of_le_of_lt (Nat.div_le_self _ _) ha
    rw [fX7_judge_L43_s, if_neg (nI_ge (by omega) (by omega)), fX8_judge_L44_s, if_neg (nI_ge (by omega) (by omega)), show nI x - 1 - nI i = nI (x - 1 - i) from by rw [show (1 : Int32) = nI 1 from rfl, pk_sub (by omega), pk_sub (by omega)], sh_b1_s (p_without ha hi4), sh_b1_s (p_longPower hi4), sh_b1_s (sh_divL_n ha hi4)]
    generalize a / 10000 ^ (x - 1 - i) = u at hq
    rw [show lN u - lN u / 10000 * 10000 = lN (u % 10000) from p_remL (d := 10000) hq (by omega), lN_i]
    have hv : u % 10000 < 10000 := Nat.mod_lt _ (by omega)
    generalize u % 10000 = v at hv
    obtain ⟨c1, c2, c3⟩ := p_code hv
    obtain ⟨b, sh', L, A3, e1, e2, h3, H3⟩ := p_doing (A := A) H hv
    rw [c1, c2, c3, sh_b2_s e1, sh_b2_s e2]
    cases b with
    | false =>
      rw [if_pos z01_f, if_pos z01_f, sh_bs_l rfl, sh_bs_l rfl]
      exact ⟨_, L, A3, rfl, rfl, h3⟩
    | true =>
      rw [if_neg z01_t, if_neg z01_t, nI_1]
      obtain ⟨o, L2, A4, f1, f2, f3⟩ := ih n (i + 1) (va_up B 1 L) A3 sh' (by omega) (by omega) (by rw [va_up_self]; exact H3)
      rw [va_up_up] at f1
      exact ⟨o, L2, A4, f1, f2, fun j h1 h2 => by rw [f3 j h1 h2, h3 j h1 h2]⟩
theorem s_judge {I : Nat → Int32} {J : Nat → Int64} {A : Nat → Nat → Int32} {B : Nat → Nat → Int64} {I2 : Nat → Int32} {S : Int64} {A2 : Nat → Nat → Int32} (HS : Sim I J A B I2 S A2) (x1 : Int32) (x2 : Int64) : ∃ o B' I2' A2', fX7_judge I J A B x1 x2 = some (o, B') ∧ fX8_judge I2 S A2 x1 x2 = some (o, I2', A2') ∧ Sim I J A B' I2' S A2' := by
  obtain ⟨k, w, h, sh, tn, dn, sn, H⟩ := HS
  have HR := H.r.s
  unfold fX7_judge fX8_judge
  rcases in_sp x1 (a := 1) (b := 4) (na := 1) (nb := 4) rfl rfl (by omega) with ⟨x, hx1, hx, rfl, e⟩ | ⟨e, q⟩
  · obtain ⟨p1, p2⟩ := z_pow4 x hx
    have hl : (lN (10000 ^ x) - 1).toInt = ((10000 ^ x - 1 : Nat) : Int) := by
      rw [show (1 : Int64) = lN 1 from rfl, lN_sub p1, lN_toI (by omega)]
    rw [if_neg (show ¬ nI x < 1 from nI_nlt (b := 1) hx1 (by omega)), if_neg (show ¬ (4 : Int32) < nI x from nI_nlt (a := 4) hx (by omega)), sh_b1_s e, if_neg z10, sh_b1_s (p_longPower hx), sh_b1_s (p_in _ _ _)]
    by_cases q0 : x2 < 0
    · have hq0 : x2.toInt < 0 := (fa_lt64 x2 0).mp q0
      rw [if_pos q0, decide_eq_false (fun z => by have := (fa_le64 0 x2).mp z.1; rw [show Int64.toInt 0 = 0 from rfl] at this; omega), if_pos z01_f]
      exact ⟨_, _, _, _, rfl, rfl, HR⟩
    · have hq0 : 0 ≤ x2.toInt := Int.not_lt.mp (fun z => q0 ((fa_lt64 x2 0).mpr z))
      have hr := fb_rngL x2
      obtain ⟨a, ha⟩ : ∃ a : Nat, x2.toInt = (a : Int) := ⟨x2.toInt.toNat, by omega⟩
      have ha63 : a < 2 ^ 63 := by omega
      obtain rfl : x2 = lN a := Int64.toInt_inj.mp (by rw [lN_toI ha63]; exact ha)
      rw [if_neg q0, sh_b1_s (p_without ha63 hx)]
      by_cases q1 : a < 10000 ^ x
      · have hin : (0 : Int64) ≤ lN a ∧ lN a ≤ lN (10000 ^ x) - 1 := ⟨(fa_le64 _ _).mpr (by rw [ha]; exact Int.natCast_nonneg a), (fa_le64 _ _).mpr (by rw [ha, hl]; omega)⟩
        obtain ⟨L0, ec, HC⟩ := p_copy7 (sL := B 1) H.1.2.2
        obtain ⟨f, eb, b1, b2⟩ := p_begin_L2 39 sh_fu 0 A2 (by omega) (by unfold sh_fu; omega)
        rw [nI_0] at eb
        have PT : Pic f k w h sh := H.1.1.congp (fun j hj => by rw [show f j = f (0 + j) by rw [Nat.zero_add]]; rw [Nat.zero_add]; exact (b1 j (by omega) hj).symm)
        obtain ⟨o, L, A3, f1, f2, f3⟩ := p_judge_L (I := I) (J := J) (A := A) (I2 := upd I2 0 0) (S := S) (k := k) (w := w) (h := h) hx ha63 x sh_fu 0 (va_up B 1 L0) (va_up A2 3 f) sh (by omega) (by unfold sh_fu; omega) (by rw [va_up_self, va_up_self]; exact ⟨PT, H.1.2.1, HC⟩)
        rw [nI_0, va_up_up] at f1
        rw [nI_0] at f2
        rw [Nat.div_eq_of_lt q1, if_pos (show lN 0 = 0 from rfl), sh_b1_s ec, f1, decide_eq_true hin, if_neg z01_t]
        unfold fX8_begin
        rw [sh_b1_s eb, sh_b1_s rfl, f2]
        exact ⟨_, _, _, _, rfl, rfl, (H.r.same (fun _ _ _ => rfl) (fun _ _ _ => rfl) (fun j h1 _ _ => va_up_ne _ _ h1) (fun _ _ _ _ _ _ => rfl) pk_us (fun j _ h3 h4 _ => by rw [f3 j h3 h4, va_up_ne _ _ h3])).s⟩
      · have hq : 0 < a / 10000 ^ x := Nat.div_pos (by omega) p1
        have hq2 : a / 10000 ^ x < 2 ^ 63 := Nat.lt_of_le_of_lt (Nat.div_le_self _ _) ha63
        rw [if_neg (fun z => by have := (lN_injI (b := 0) hq2 (by omega)).mp z; omega), decide_eq_false (fun z => by have := (fa_le64 _ _).mp z.2; rw [ha, hl] at this; omega), if_pos z01_f]
        exact ⟨_, _, _, _, rfl, rfl, HR⟩
  · rw [sh_b1_s e, if_pos rfl]
    refine ⟨-2, B, _, _, ?_, rfl, HR⟩
    rcases q with q | q
    · rw [if_pos (by rw [Int32.lt_iff_toInt_lt]; exact q)]
    · have q9 : (4 : Int32) < x1 := by rw [Int32.lt_iff_toInt_lt]; exact q
      by_cases z : x1 < 1
      · rw [if_pos z]
      · rw [if_neg z, if_pos q9]
