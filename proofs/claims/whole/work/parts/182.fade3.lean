/-! dots that fade: the answer -/
theorem in1_sp (x : Int32) {nb : Nat} (hn : nb < 2 ^ 31) {b : Int64} (hb : b.toInt = (nb : Int)) : (∃ v : Nat, v ≤ nb ∧ x = nI v ∧ fX8_in (Int32.toInt64 x) 0 b = some 1) ∨ (fX8_in (Int32.toInt64 x) 0 b = some 0 ∧ (x < 0 ∨ nI nb < x)) := by
  rcases in_sp x (a := 0) (na := 0) rfl hb hn with ⟨v, -, hv, rfl, e⟩ | ⟨e, q⟩
  · exact Or.inl ⟨v, hv, rfl, e⟩
  · refine Or.inr ⟨e, ?_⟩
    rcases q with q | q
    · left; rw [Int32.lt_iff_toInt_lt]; exact q
    · right; rw [Int32.lt_iff_toInt_lt, nI_toInt hn]; exact q
theorem s_fades {I : Nat → Int32} {J : Nat → Int64} {A : Nat → Nat → Int32} {B : Nat → Nat → Int64} {I2 : Nat → Int32} {S : Int64} {A2 : Nat → Nat → Int32} (HS : Sim I J A B I2 S A2) (x1 x2 x3 x4 x5 : Int32) : ∃ o I2' A2', fX7_fades I J B x1 x2 x3 x4 x5 = some o ∧ fX8_fades I2 A2 x1 x2 x3 x4 x5 = some (o, I2', A2') ∧ Sim I J A B I2' S A2' := by
  obtain ⟨k, w, h, sh, tn, dn, sn, H⟩ := HS
  have hh := H.1.1.hh
  have hw := H.1.1.ww
  have h36 := H.1.1.n36
  have h64 := sm_pow64 hw.2
  unfold fX7_fades fX8_fades
  rcases row_sp H.1 x1 with ⟨r, hr, rfl, e1, e2⟩ | ⟨e1, e2⟩
  · rw [sh_b1_s e1, sh_b1_s e2, if_neg z10, if_neg z10]
    rcases in_sp x2 (a := 1) (b := 9) (na := 1) (nb := 9) rfl rfl (by omega) with ⟨t, t1, t9, rfl, e3⟩ | ⟨e3, q⟩
    · rw [sh_b1_s e3, if_neg (show ¬ nI t < 1 from nI_nlt (b := 1) t1 (by omega)), if_neg (show ¬ (9 : Int32) < nI t from nI_nlt (a := 9) t9 (by omega)), if_neg z10]
      rcases in1_sp x3 (nb := 36) (b := 36) (by omega) rfl with ⟨v, hv, rfl, e4⟩ | ⟨e4, q⟩
      · rw [sh_b1_s e4, if_neg (nI_pos (by omega)), if_neg (show ¬ (36 : Int32) < nI v from nI_nlt (a := 36) hv (by omega)), if_neg z10]
        rcases in1_sp x4 (nb := 10) (b := 10) (by omega) rfl with ⟨x, hx, rfl, e5⟩ | ⟨e5, q⟩
        · obtain ⟨c, hc, hcb⟩ := mk_mask (fun j => up (w * h) sh t (w * r + j)) w
          have hUl : ∀ i, up (w * h) sh t i = true → i < w * h := fun i hi => up_lt hi
          have hpc := mk_pcw w (by omega) c hc
          have hrow : zs (up (w * h) sh t) &&& zs (fun i => decide (i < w * h) && decide (i / w = r)) = zs (gs w h r (fun j => c.testBit j)) := by
            rw [zs_and]
            exact zs_cong (fun i _ => gs_row hUl (by omega) hcb i)
          have hcc : c &&& c = c := Nat.and_self c
          have f7 := p_fadedOut_L H.1 hUl hr hv hx hc c sh_fu 0 0 hcc (by omega) (by unfold sh_fu; omega) hc
          rw [Nat.zero_add, nI_0, ← z7_top _ _ _ (by omega) hc] at f7
          obtain ⟨f, f8⟩ := p_fades_L79 (k := k) (w := w) (h := h) (sh := sh) (r := r) (t := t) (v := v) (x := x) ⟨t1, t9⟩ hv hx hr x5 (2 ^ w) sh_fu 0 A2 (by omega) (by unfold sh_fu; omega) H.1.1
          rw [show fb_sm (z8t (zG k w h r v (up (w * h) sh t)) x (10 - x) w) 0 = 0 from rfl, nI_0] at f8
          have key := z78 (x := x) (y := 10 - x) (by omega) w (by omega) c (zG k w h r v (up (w * h) sh t)) hc (fun m _ => zG_mask (by omega) hcb m)
          have le8 := z8_le (zG_le k w h r v (up (w * h) sh t)) (w := w) (x := x) (by omega) (by omega)
          have h6 : 10 ^ w ≤ 1000000 := Nat.pow_le_pow_right (n := 10) (by decide) hw.2
          have hpd : 0 < 10 ^ (w - zpc c) := Nat.pow_pos (by decide)
          have hpw : 10 ^ zpc c * 10 ^ (w - zpc c) = 10 ^ w := by rw [← Nat.pow_add]; congr 1; omega
          have hpz : 0 < 10 ^ zpc c := Nat.pow_pos (by decide)
          have hpz6 : 10 ^ zpc c ≤ 1000000 := Nat.pow_le_pow_right (n := 10) (by decide) (show zpc c ≤ 6 by omega)
          generalize fb_sm (z8t (zG k w h r v (up (w * h) sh t)) x (10 - x) w) (2 ^ w) = s8 at *
          generalize fb_sm (z7t (zG k w h r v (up (w * h) sh t)) x (10 - x) c) (2 ^ w) = s7 at *
          have hle7 : s7 ≤ s8 := by rw [key]; exact Nat.le_mul_of_pos_right _ hpd
          have g7 := p_frac7 (a := s7) (b := 10 ^ zpc c) (by omega) hpz (by omega) x5
          have g8 := p_frac8 (a := s8) (b := 10 ^ w) (by omega) (Nat.pow_pos (by decide)) (by omega) x5
          rw [key, ← hpw, zfr_mul hpd] at g8
          rw [sh_b1_s e5, if_neg (nI_pos (by omega)), if_pos (show nI x ≤ 10 from nI_le (b := 10) hx (by omega)), if_neg z10, sh_b1_s (p_atLeast H.1.2.2 H.1.sh9 (by omega))]
          unfold fX1_row fX7_fadedOut
          have hgd : I 2 = nI w := H.1.2.1.2.1
          rw [sh_b1_s rfl, hgd, row_all w (by omega) h (by omega) (by omega) (by omega) r hr, hrow, sh_b1_s f7, sh_b1_s rfl, sh_b1_s (p_bcs _), gs_ct hr h36, mk_ctw w (by omega) c hc, show (10 : Int32) = nI 10 from rfl, sh_b1_s (mk_pow7 10 (by omega) _ (by omega)), sh_b1_s g7, H.1.1.wide, sh_b2_s f8, sh_b1_s (mk_pow8 10 (by omega) _ (by omega)), ← hpw, key, sh_b1_s g8]
          exact ⟨_, _, _, rfl, rfl, (H.r.same (fun _ _ _ => rfl) (fun _ _ _ => rfl) (fun _ _ _ _ => rfl) (fun _ _ _ _ _ _ => rfl) pk_us (fun j _ h3 _ _ => va_up_ne _ _ h3)).s⟩
        · rw [sh_b1_s e5, if_pos rfl]
          rcases q with q | q
          · rw [if_pos q]
            exact ⟨_, _, _, rfl, rfl, H.r.s⟩
          · have q2 : ¬ x4 ≤ 10 := Int32.not_le.mpr q
            by_cases z : x4 < 0
            · rw [if_pos z]
              exact ⟨_, _, _, rfl, rfl, H.r.s⟩
            · rw [if_neg z, if_neg q2]
              exact ⟨_, _, _, rfl, rfl, H.r.s⟩
      · rw [sh_b1_s e4, if_pos (show (0 : Int32) = 0 from rfl)]
        rcases q with q | q
        · rw [if_pos q]
          exact ⟨_, _, _, rfl, rfl, H.r.s⟩
        · by_cases z : x3 < 0
          · rw [if_pos z]
            exact ⟨_, _, _, rfl, rfl, H.r.s⟩
          · rw [if_neg z, if_pos (show (36 : Int32) < x3 from q)]
            exact ⟨_, _, _, rfl, rfl, H.r.s⟩
    · rw [sh_b1_s e3, if_pos (show (0 : Int32) = 0 from rfl)]
      rcases q with q | q
      · rw [if_pos (by rw [Int32.lt_iff_toInt_lt]; exact q)]
        exact ⟨_, _, _, rfl, rfl, H.r.s⟩
      · by_cases z : x2 < 1
        · rw [if_pos z]
          exact ⟨_, _, _, rfl, rfl, H.r.s⟩
        · rw [if_neg z, if_pos (by rw [Int32.lt_iff_toInt_lt]; exact q)]
          exact ⟨_, _, _, rfl, rfl, H.r.s⟩
  · rw [sh_b1_s e1, sh_b1_s e2, if_pos rfl, if_pos rfl]
    exact ⟨_, _, _, rfl, rfl, H.r.s⟩
