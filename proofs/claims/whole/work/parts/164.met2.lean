/-! the methods that count, and that change -/
section
variable {I : Nat → Int32} {J : Nat → Int64} {A : Nat → Nat → Int32} {B : Nat → Nat → Int64} {I2 : Nat → Int32} {S : Int64} {A2 : Nat → Nat → Int32}
theorem s_about (HS : Sim I J A B I2 S A2) (x : Int32) : ∃ o I' A' B' I2', fX7_about I J A B x = some (o, I', A', B') ∧ fX8_about I2 A2 x = some (o, I2') ∧ Sim I' J A' B' I2' S A2 := by
  obtain ⟨k, w, h, sh, tn, dn, sn, H⟩ := HS
  have h36 := H.1.1.n36
  have HR := H.r
  have HT : ∀ z a b, Sim (upd I 4 z) J (va_up A 1 a) (va_up B 2 b) (upd I2 0 0) S A2 := fun z a b => (HR.same (fun j h4 _ => pk_un h4) (fun j h1 _ => va_up_ne _ _ h1) (fun j _ h2 _ => va_up_ne _ _ h2) (fun _ _ _ _ _ _ => rfl) HR.2.2.2.2.2.2 (fun _ _ _ _ _ => rfl)).s
  unfold fX7_about fX8_about fX1_way fX1_wide fX1_high fX0_size fX3_size fX5_size fX1_all
  by_cases q : x = 0
  · rw [if_pos q, if_pos q, q, show (0 : Int32) = nI 0 from rfl, sh_b1_s rfl, sh_b1_s (sh_ald_n (by omega) (by omega)), H.1.1.way, H.1.2.1.1]
    exact ⟨_, _, _, _, _, rfl, rfl, HR.s⟩
  rw [if_neg q, if_neg q]
  by_cases q : x = 1
  · rw [if_pos q, if_pos q, q, sh_b1_s rfl, show sh_ald (A2 2) 39 1 = some (A2 2 1) from sh_ald_n (j := 1) (by omega) (by omega), sh_b1_s rfl, H.1.1.wide, H.1.2.1.2.1]
    exact ⟨_, _, _, _, _, rfl, rfl, HR.s⟩
  rw [if_neg q, if_neg q]
  by_cases q : x = 2
  · rw [if_pos q, if_pos q, q, sh_b1_s rfl, show sh_ald (A2 2) 39 2 = some (A2 2 2) from sh_ald_n (j := 2) (by omega) (by omega), sh_b1_s rfl, H.1.1.high, H.1.2.1.2.2.1]
    exact ⟨_, _, _, _, _, rfl, rfl, HR.s⟩
  rw [if_neg q, if_neg q]
  by_cases q : x = 3
  · obtain ⟨a, b, z, e⟩ := p_nodes7 H.1 (B 2) (A 1)
    rw [if_pos q, if_pos q, sh_b4_s e, sh_b1_s (p_nodes8 H.1.1)]
    exact ⟨_, _, _, _, _, rfl, rfl, HT _ _ _⟩
  rw [if_neg q, if_neg q]
  by_cases q : x = 4
  · obtain ⟨a, b, z, e⟩ := p_leaves7 H.1 (B 2) (A 1)
    rw [if_pos q, if_pos q, sh_b4_s e, sh_b1_s (p_leaves8 H.1.1)]
    exact ⟨_, _, _, _, _, rfl, rfl, HT _ _ _⟩
  rw [if_neg q, if_neg q]
  by_cases q : x = 5
  · obtain ⟨a, b, z, e⟩ := p_deep7 H.1 (B 2) (A 1)
    rw [if_pos q, if_pos q, sh_b4_s e, sh_b1_s (p_deep8 H.1.1)]
    exact ⟨_, _, _, _, _, rfl, rfl, HT _ _ _⟩
  rw [if_neg q, if_neg q]
  by_cases q : x = 6
  · rw [if_pos q, if_pos q, sh_b1_s rfl, H.1.2.1.2.2.2.1, sh_b1_s (p_light7 H.1.2.2 h36 H.1.sh9 _), sh_b1_s (p_light8 H.1.1 (fun i => decide (i < w * h)) (-1) (fun i hi => by rw [zb_m1, decide_eq_true (show i < 64 by omega), decide_eq_true hi]))]
    exact ⟨_, _, _, _, _, rfl, rfl, HR.s⟩
  rw [if_neg q, if_neg q]
  by_cases q : x = 7
  · rw [if_pos q, if_pos q, sh_b1_s rfl, H.2.2.1.2.1, H.2.2.1.2.2.1]
    exact ⟨_, _, _, _, _, rfl, rfl, HR.s⟩
  rw [if_neg q, if_neg q]
  by_cases q : x = 8
  · rw [if_pos q, if_pos q, sh_b1_s rfl, H.2.2.2.2.1.2.1, H.2.2.2.2.1.2.2.1]
    exact ⟨_, _, _, _, _, rfl, rfl, HR.s⟩
  rw [if_neg q, if_neg q]
  by_cases q : x = 9
  · rw [if_pos q, if_pos q, sh_b1_s rfl, H.2.1.2.1, H.2.1.2.2.1]
    exact ⟨_, _, _, _, _, rfl, rfl, HR.s⟩
  rw [if_neg q, if_neg q]
  exact ⟨_, _, _, _, _, rfl, rfl, HR.s⟩
theorem s_add {k w h : Nat} {sh : Nat → Nat} {tn dn sn : Nat} (H : Simk k w h sh tn dn sn I J A B I2 S A2) : ∃ m o2 b2 I3, fX0_add (B 4) (I 6) (B 0) = some (o2, nI m) ∧ fX8_note (upd I2 0 0) A2 = some (I3, va_up A2 5 b2) ∧ Simk k w h sh tn m sn (upd I 6 (nI m)) J A (va_up B 4 o2) I3 S (va_up A2 5 b2) := by
  obtain ⟨p, ⟨t1, t2, t3, t4⟩, ⟨d1, d2, d3, d4⟩, kp, ⟨s1, s2, s3, s4⟩, sd, th⟩ := H
  obtain ⟨m, o2, b2, I3, hm, -, e1, e2, i2, i3, HB⟩ := p_add7 (I := upd I2 0 0) (A := A2) (b := A2 5) (o := B 4) (sL := B 0) (sh := sh) (by rw [pk_un (by omega)]; exact d3) d1 rfl d4 p.1 p.2.2
  rw [d2]
  refine ⟨m, o2, b2, I3, e1, e2, ?_, ⟨t1, ?_, ?_, ?_⟩, ⟨hm, pk_us, i2, ?_⟩, ?_, ⟨s1, ?_, ?_, ?_⟩, sd, ?_⟩
  · rw [pk_un (by omega), pk_un (by omega), pk_un (by omega), va_up_ne _ _ (by omega), va_up_ne _ _ (by omega)]; exact p
  · rw [pk_un (by omega)]; exact t2
  · rw [i3 1 (by omega), pk_un (by omega)]; exact t3
  · rw [va_up_ne _ _ (by omega)]; exact t4
  · rw [va_up_self, va_up_self]; exact HB
  · rw [va_up_ne _ _ (by omega), va_up_ne _ _ (by omega), va_up_ne _ _ (by omega)]; exact kp
  · rw [pk_un (by omega)]; exact s2
  · rw [i3 3 (by omega), pk_un (by omega)]; exact s3
  · rw [va_up_ne _ _ (by omega), va_up_ne _ _ (by omega), va_up_ne _ _ (by omega)]; exact s4
  · rw [i3 0 (by omega), pk_us]
theorem s_paint (HS : Sim I J A B I2 S A2) (x1 x2 : Int32) : ∃ o I' B' I2' A2', fX7_paint I B x1 x2 = some (o, I', B') ∧ fX8_paint I2 A2 x1 x2 = some (o, I2', A2') ∧ Sim I' J A B' I2' S A2' := by
  obtain ⟨k, w, h, sh, tn, dn, sn, H⟩ := HS
  have h36 := H.1.1.n36
  unfold fX7_paint fX8_paint
  rcases dot_sp H.1 rfl x1 with ⟨d, hd, rfl, e1, e2⟩ | ⟨e1, e2⟩
  · rw [sh_b1_s e1, sh_b1_s e2, if_neg (by decide), if_pos rfl]
    rcases shade_sp x2 with ⟨v, hv, rfl, e3, e4⟩ | ⟨e3, e4⟩
    · obtain ⟨m, o2, b2, I3, a1, a2, HA⟩ := s_add H
      obtain ⟨sL2, e5, L5⟩ := p_set7 h36 hd hv H.1.2.2
      rw [sh_b1_s e3, sh_b1_s e4, if_neg (by decide), if_neg (by decide), sh_b1_s (p_of H.1.2.2 h36 H.1.sh9 hd), sh_b2_s a1, sh_b2_s a2, sh_b1_s e5, va_up_ne _ _ (show 2 ≠ 5 by omega), sh_b1_s (H.1.1.shade hd), sh_b1_s (H.1.1.stp hd _)]
      refine ⟨_, _, _, _, _, rfl, rfl, (HA.cong (sh' := fun i => if i = d then v else sh i) (fun _ _ _ => rfl) (fun _ _ _ => rfl) (fun j h0 _ _ _ => va_up_ne _ _ h0) (fun _ _ _ _ _ _ => rfl) HA.2.2.2.2.2.2 (fun j _ h2 _ _ _ => va_up_ne _ _ h2) ?_ ?_).s⟩
      · rw [va_up_self]; exact H.1.1.paint hv
      · rw [va_up_self]; exact L5
    · rw [sh_b1_s e3, sh_b1_s e4, if_pos rfl, if_pos rfl]
      exact ⟨_, _, _, _, _, rfl, rfl, H.r.s⟩
  · rw [sh_b1_s e1, sh_b1_s e2, if_pos rfl, if_neg (by decide)]
    exact ⟨_, _, _, _, _, rfl, rfl, H.r.s⟩
theorem s_negative (HS : Sim I J A B I2 S A2) : ∃ o I' A' B' I2' A2', fX7_negative I J A B = some (o, I', A', B') ∧ fX8_negative I2 A2 = some (o, I2', A2') ∧ Sim I' J A' B' I2' S A2' := by
  obtain ⟨k, w, h, sh, tn, dn, sn, H⟩ := HS
  have h36 := H.1.1.n36
  unfold fX7_negative fX8_negative
  obtain ⟨m, o2, b2, I3, a1, a2, HA⟩ := s_add H
  obtain ⟨sL2, e5, L5⟩ := p_turn7 h36 H.1.2.1.2.2.2.1 H.1.sh9 H.1.2.2
  obtain ⟨p2, e6, P6⟩ := p_neg8 H.1.1
  have HY : Sys p2 (I 1) (I 2) (I 3) (J 0) (J 1) (J 2) sL2 k w h (fun i => 9 - sh i) := ⟨P6, H.1.2.1, L5⟩
  obtain ⟨a, b, z, e7⟩ := p_nodes7 HY (B 2) (A 1)
  rw [sh_b2_s a1, sh_b2_s a2, sh_b1_s e5, sh_b4_s e7, va_up_ne _ _ (show 2 ≠ 5 by omega), sh_b1_s e6, sh_b1_s (p_nodes8 P6)]
  refine ⟨_, _, _, _, _, _, rfl, rfl, (HA.cong (sh' := fun i => 9 - sh i) (fun j h4 _ => pk_un h4) (fun j h1 _ => va_up_ne _ _ h1) (fun j h0 _ h2 _ => by rw [va_up_ne _ _ h2, va_up_ne _ _ h0]) (fun _ _ _ _ _ _ => rfl) HA.2.2.2.2.2.2 (fun j _ h2 _ _ _ => va_up_ne _ _ h2) ?_ ?_).s⟩
  · rw [va_up_self]; exact P6
  · rw [va_up_ne _ _ (by omega), va_up_self]; exact L5
theorem sieve_sp (x1 x2 : Int32) : (∃ (kd : Bool) (m : Nat), m ≤ 36 ∧ x1 = z01 kd ∧ x2 = nI m ∧ fX7_isSieve x1 x2 = some 1 ∧ fX8_in (Int32.toInt64 x1) 0 1 = some 1 ∧ (kd = false → fX8_in (Int32.toInt64 x2) 1 36 = some 1) ∧ (kd = true → fX8_in (Int32.toInt64 x2) 1 6 = some 1)) ∨ (fX7_isSieve x1 x2 = some 0 ∧ (fX8_in (Int32.toInt64 x1) 0 1 = some 0 ∨ ∃ kd : Bool, x1 = z01 kd ∧ fX8_in (Int32.toInt64 x1) 0 1 = some 1 ∧ (kd = false → fX8_in (Int32.toInt64 x2) 1 36 = some 0) ∧ (kd = true → fX8_in (Int32.toInt64 x2) 1 6 = some 0))) := by
  unfold fX7_isSieve
  rcases in_sp x1 (a := 0) (b := 1) (na := 0) (nb := 1) rfl rfl (by omega) with ⟨v, -, hv, rfl, e⟩ | ⟨e, q⟩
  · have hkd : nI v = z01 (decide (v = 1)) := by
      rcases Nat.lt_or_ge v 1 with z | z
      · obtain rfl : v = 0 := by omega
        rfl
      · obtain rfl : v = 1 := by omega
        rfl
    by_cases z : v = 1
    · subst z
      rw [if_neg (show ¬ nI 1 = 0 by decide), if_pos (show nI 1 = 1 from rfl)]
      rcases in_sp x2 (a := 1) (b := 6) (na := 1) (nb := 6) rfl rfl (by omega) with ⟨m, h1, hm, rfl, e2⟩ | ⟨e2, q2⟩
      · refine Or.inl ⟨true, m, by omega, rfl, rfl, ?_, e, fun z => (nomatch z), fun _ => e2⟩
        rw [if_neg (show ¬ nI m < 1 from nI_nlt (b := 1) h1 (by omega)), if_neg (show ¬ (6 : Int32) < nI m from nI_nlt (a := 6) hm (by omega))]
      · refine Or.inr ⟨?_, Or.inr ⟨true, rfl, e, fun z => (nomatch z), fun _ => e2⟩⟩
        rcases q2 with q2 | q2
        · rw [if_pos (by rw [Int32.lt_iff_toInt_lt]; exact q2)]
        · have q9 : (6 : Int32) < x2 := by rw [Int32.lt_iff_toInt_lt]; exact q2
          by_cases z : x2 < 1
          · rw [if_pos z]
          · rw [if_neg z, if_pos q9]
    · obtain rfl : v = 0 := by omega
      rw [if_pos (show nI 0 = 0 from rfl)]
      rcases in_sp x2 (a := 1) (b := 36) (na := 1) (nb := 36) rfl rfl (by omega) with ⟨m, h1, hm, rfl, e2⟩ | ⟨e2, q2⟩
      · refine Or.inl ⟨false, m, by omega, rfl, rfl, ?_, e, fun _ => e2, fun z => (nomatch z)⟩
        rw [if_neg (show ¬ nI m < 1 from nI_nlt (b := 1) h1 (by omega)), if_neg (show ¬ (36 : Int32) < nI m from nI_nlt (a := 36) hm (by omega))]
      · refine Or.inr ⟨?_, Or.inr ⟨false, rfl, e, fun _ => e2, fun z => (nomatch z)⟩⟩
        rcases q2 with q2 | q2
        · rw [if_pos (by rw [Int32.lt_iff_toInt_lt]; exact q2)]
        · have q9 : (36 : Int32) < x2 := by rw [Int32.lt_iff_toInt_lt]; exact q2
          by_cases z : x2 < 1
          · rw [if_pos z]
          · rw [if_neg z, if_pos q9]
  · refine Or.inr ⟨?_, Or.inl e⟩
    have h0 : ¬ x1 = 0 := fun z => by rw [z, show Int32.toInt 0 = 0 from rfl] at q; omega
    have h1 : ¬ x1 = 1 := fun z => by rw [z, show Int32.toInt 1 = 1 from rfl] at q; omega
    rw [if_neg h0, if_neg h1]
theorem s_sift (HS : Sim I J A B I2 S A2) (x1 x2 : Int32) : ∃ o I' B' I2' A2', fX7_sift I J B x1 x2 = some (o, I', B') ∧ fX8_sift I2 A2 x1 x2 = some (o, I2', A2') ∧ Sim I' J A B' I2' S A2' := by
  obtain ⟨k, w, h, sh, tn, dn, sn, H⟩ := HS
  have h36 := H.1.1.n36
  obtain ⟨m0, hm0⟩ := ex_m0 (sh := sh) H.1.1.n0
  unfold fX7_sift fX8_sift
  rcases sieve_sp x1 x2 with ⟨kd, m, hm, rfl, rfl, e1, e2, e3, e4⟩ | ⟨e1, e2⟩
  · obtain ⟨mm, o2, b2, I3, a1, a2, HA⟩ := s_add H
    obtain ⟨sL2, e5, L5⟩ := p_thin H.1.2.1 H.1.2.2 H.1.sh9 kd hm hm0
    obtain ⟨A3, e6, P6, r6⟩ := p_goSift_p (A := va_up A2 5 b2) (by rw [va_up_ne _ _ (by omega)]; exact H.1.1) kd hm hm0
    have HZ : Sim (upd I 6 (nI mm)) J A (va_up (va_up B 4 o2) 0 sL2) I3 S A3 := (HA.cong (sh' := zsf k w h sh kd m m0) (fun _ _ _ => rfl) (fun _ _ _ => rfl) (fun j h0 _ _ _ => va_up_ne _ _ h0) (fun _ _ _ _ _ _ => rfl) HA.2.2.2.2.2.2 (fun j _ h2 _ h4 _ => r6 j h2 h4) P6 (by rw [va_up_self]; exact L5)).s
    rw [sh_b1_s e1, if_neg (by decide), sh_b2_s a1, sh_b2_s e5, sh_b1_s e2, if_neg (by decide)]
    cases kd with
    | false =>
      rw [if_pos z01_f, sh_b1_s (e3 rfl), if_neg (by decide), sh_b2_s a2, sh_b2_s e6]
      exact ⟨_, _, _, _, _, rfl, rfl, HZ⟩
    | true =>
      rw [if_neg z01_t, sh_b1_s (e4 rfl), if_neg (by decide), sh_b2_s a2, sh_b2_s e6]
      exact ⟨_, _, _, _, _, rfl, rfl, HZ⟩
  · rw [sh_b1_s e1, if_pos rfl]
    rcases e2 with e2 | ⟨kd, rfl, e2, e3, e4⟩
    · rw [sh_b1_s e2, if_pos rfl]
      exact ⟨_, _, _, _, _, rfl, rfl, H.r.s⟩
    · rw [sh_b1_s e2, if_neg (by decide)]
      cases kd with
      | false => rw [if_pos z01_f, sh_b1_s (e3 rfl), if_pos rfl]; exact ⟨_, _, _, _, _, rfl, rfl, H.r.s⟩
      | true => rw [if_neg z01_t, sh_b1_s (e4 rfl), if_pos rfl]; exact ⟨_, _, _, _, _, rfl, rfl, H.r.s⟩
theorem s_undo (HS : Sim I J A B I2 S A2) : ∃ o I' B' I2' A2', fX7_undo I B = some (o, I', B') ∧ fX8_undo I2 A2 = some (o, I2', A2') ∧ Sim I' J A B' I2' S A2' := by
  obtain ⟨k, w, h, sh, tn, dn, sn, H⟩ := HS
  have HR := H.r.s
  obtain ⟨p, ⟨t1, t2, t3, t4⟩, ⟨d1, d2, d3, d4⟩, kp, ⟨s1, s2, s3, s4⟩, sd, th⟩ := H
  unfold fX7_undo fX8_undo fX0_takeBack fX0_size
  rw [d2, d3]
  rcases Nat.eq_zero_or_pos dn with rfl | hp
  · rw [if_neg (show ¬ (1 : Int32) ≤ nI 0 by decide), if_pos (show nI 0 = 0 from rfl), sh_b3_s rfl, if_pos rfl]
    refine ⟨_, _, _, _, _, rfl, rfl, ?_⟩
    rw [upd_id d2, va_up_id]
    exact HR
  · obtain ⟨n, rfl⟩ : ∃ n, dn = n + 1 := ⟨dn - 1, by omega⟩
    obtain ⟨sp, P, L⟩ := d4 n (by omega)
    rw [if_pos (show (1 : Int32) ≤ nI (n + 1) from nI_le (a := 1) (by omega) (by omega)), if_neg (nI_ne0 (by omega) (by omega)), nI_pred, show nI n * 10 = nI (n * 10) from pk_mul n 10, sh_b1_s (p_load (rn := 140) (by omega) (by omega)), sh_b3_s rfl, if_neg (by decide), sh_b1_s rfl]
    obtain ⟨f, e, h1, h2⟩ := p_undo_L27 (I := upd (upd I2 0 0) 2 (nI n)) (a := n) (by omega) pk_us 39 sh_fu 0 A2 (by omega) (by unfold sh_fu; omega)
    rw [nI_0] at e
    rw [sh_b1_s e]
    refine ⟨_, _, _, _, _, rfl, rfl, k, w, h, sp, tn, n, sn, ⟨?_, ?_, ?_⟩, ⟨t1, ?_, ?_, ?_⟩, ⟨by omega, pk_us, pk_us, ?_⟩, ?_, ⟨s1, ?_, ?_, ?_⟩, sd, ?_⟩
    · rw [va_up_self]
      exact P.congp (fun j hj => (h1 j (by omega) hj).symm)
    · rw [pk_un (by omega), pk_un (by omega), pk_un (by omega)]; exact p.2.1
    · rw [va_up_self]
      intro t ht
      rw [cpy_in (by omega) (by omega), show n * 10 + (t - 0) = 10 * n + t by omega]
      exact L t ht
    · rw [pk_un (by omega)]; exact t2
    · rw [pk_un (by omega), pk_un (by omega)]; exact t3
    · rw [va_up_ne _ _ (by omega)]; exact t4
    · rw [va_up_ne _ _ (by omega), va_up_ne _ _ (by omega)]
      exact fun i hi => d4 i (by omega)
    · rw [va_up_ne _ _ (by omega), va_up_ne _ _ (by omega), va_up_ne _ _ (by omega)]; exact kp
    · rw [pk_un (by omega)]; exact s2
    · rw [pk_un (by omega), pk_un (by omega)]; exact s3
    · rw [va_up_ne _ _ (by omega), va_up_ne _ _ (by omega), va_up_ne _ _ (by omega)]; exact s4
    · rw [pk_un (by omega), pk_us]
end
