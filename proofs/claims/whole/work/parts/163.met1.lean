/-! the methods, one by one -/
theorem upd_id {f : Nat → Int32} {a : Nat} {v : Int32} (h : f a = v) : upd f a v = f := funext fun j => by
  by_cases z : j = a
  · rw [z, pk_us, h]
  · rw [pk_un z]
theorem va_up_id {α : Type} (f : Nat → α) (a : Nat) : va_up f a (f a) = f := funext fun j => by
  by_cases z : j = a
  · rw [z, va_up_self]
  · rw [va_up_ne _ _ z]
section
variable {I : Nat → Int32} {J : Nat → Int64} {A : Nat → Nat → Int32} {B : Nat → Nat → Int64} {I2 : Nat → Int32} {S : Int64} {A2 : Nat → Nat → Int32}
theorem s_wipe (HS : Sim I J A B I2 S A2) : ∃ o I' I2', fX7_wipe I = some (o, I') ∧ fX8_wipe I2 = some (o, I2') ∧ Sim I' J A B I2' S A2 := by
  obtain ⟨k, w, h, sh, tn, dn, sn, H⟩ := HS
  obtain ⟨p, ⟨t1, t2, t3, t4⟩, ⟨d1, d2, d3, d4⟩, kp, ⟨s1, s2, s3, s4⟩, sd, th⟩ := H
  refine ⟨nI tn, upd I 0 0, upd (upd I2 0 0) 1 0, ?_, ?_, k, w, h, sh, 0, dn, sn, ?_⟩
  · unfold fX7_wipe fX5_size fX5_clear
    rw [sh_b1_s rfl, sh_b1_s rfl, t2]
  · unfold fX8_wipe
    rw [t3]
  · refine ⟨?_, ⟨by omega, pk_us, pk_us, fun j hj => absurd hj (Nat.not_lt_zero j)⟩, ⟨d1, ?_, ?_, d4⟩, kp, ⟨s1, ?_, ?_, s4⟩, sd, ?_⟩
    · rw [pk_un (by omega), pk_un (by omega), pk_un (by omega)]; exact p
    · rw [pk_un (by omega)]; exact d2
    · rw [pk_un (by omega), pk_un (by omega)]; exact d3
    · rw [pk_un (by omega)]; exact s2
    · rw [pk_un (by omega), pk_un (by omega)]; exact s3
    · rw [pk_un (by omega), pk_us]
theorem s_unsee (HS : Sim I J A B I2 S A2) : ∃ o I' I2', fX7_unsee I = some (o, I') ∧ fX8_unsee I2 = some (o, I2') ∧ Sim I' J A B I2' S A2 := by
  obtain ⟨k, w, h, sh, tn, dn, sn, H⟩ := HS
  obtain ⟨p, ⟨t1, t2, t3, t4⟩, ⟨d1, d2, d3, d4⟩, kp, ⟨s1, s2, s3, s4⟩, sd, th⟩ := H
  refine ⟨nI sn, upd I 7 0, upd (upd I2 0 0) 3 0, ?_, ?_, k, w, h, sh, tn, dn, 0, ?_⟩
  · unfold fX7_unsee fX3_size fX3_clear
    rw [sh_b1_s rfl, sh_b1_s rfl, s2]
  · unfold fX8_unsee
    rw [s3]
  · refine ⟨?_, ⟨t1, ?_, ?_, t4⟩, ⟨d1, ?_, ?_, d4⟩, kp, ⟨by omega, pk_us, pk_us, fun j hj => absurd hj (Nat.not_lt_zero j)⟩, sd, ?_⟩
    · rw [pk_un (by omega), pk_un (by omega), pk_un (by omega)]; exact p
    · rw [pk_un (by omega)]; exact t2
    · rw [pk_un (by omega), pk_un (by omega)]; exact t3
    · rw [pk_un (by omega)]; exact d2
    · rw [pk_un (by omega), pk_un (by omega)]; exact d3
    · rw [pk_un (by omega), pk_us]
theorem s_seed (HS : Sim I J A B I2 S A2) (x : Int64) : ∃ o J' I2' S', fX7_seed J x = some (o, J') ∧ fX8_seed I2 S x = some (o, I2', S') ∧ Sim I J' A B I2' S' A2 := by
  obtain ⟨k, w, h, sh, tn, dn, sn, H⟩ := HS
  obtain ⟨p, t, d, kp, s, sd, th⟩ := H.r
  refine ⟨S, vp_updL J 3 x, upd I2 0 0, x, by unfold fX7_seed; rw [sd], rfl, k, w, h, sh, tn, dn, sn, ?_, t, d, kp, s, pk_uLs, th⟩
  rw [pk_uLn (by omega), pk_uLn (by omega), pk_uLn (by omega)]; exact p
theorem s_write (HS : Sim I J A B I2 S A2) (x : Int32) : ∃ o I' A' I2' A2', fX7_write I A x = some (o, I', A') ∧ fX8_write I2 A2 x = some (o, I2', A2') ∧ Sim I' J A' B I2' S A2' := by
  obtain ⟨k, w, h, sh, tn, dn, sn, H⟩ := HS
  have HR := H.r.s
  obtain ⟨p, ⟨t1, t2, t3, t4⟩, ⟨d1, d2, d3, d4⟩, kp, ⟨s1, s2, s3, s4⟩, sd, th⟩ := H
  unfold fX7_write fX8_write fX5_add fX5_size
  rcases in_sp x (a := 0) (b := 255) (na := 0) (nb := 255) rfl rfl (by omega) with ⟨v, -, hv, rfl, e⟩ | ⟨e, q⟩
  · rw [sh_b1_s e, if_neg (show ¬ (1 : Int32) = 0 by decide), if_neg (nI_pos (by omega)), if_pos (show nI v ≤ 255 from nI_le (b := 255) hv (by omega)), t2, t3, if_neg (nI_pos (by omega))]
    rcases Nat.lt_or_ge tn 40 with q | q
    · rw [if_pos (show nI tn < 40 from nI_lt (b := 40) q (by omega)), if_neg (show ¬ nI tn = 40 from fun z => by have := (nI_eq (b := 40) (by omega) (by omega)).mp z; omega), sh_b1_s (sh_ast_n q (by omega)), sh_b3_s rfl, if_neg (by decide), sh_b1_s rfl, sh_b1_s (sh_ast_n q (by omega)), nI_1]
      refine ⟨_, _, _, _, _, rfl, rfl, k, w, h, sh, tn + 1, dn, sn, ?_, ⟨by omega, pk_us, pk_us, ?_⟩, ⟨d1, ?_, ?_, ?_⟩, ?_, ⟨s1, ?_, ?_, ?_⟩, sd, ?_⟩
      · rw [pk_un (by omega), pk_un (by omega), pk_un (by omega), va_up_ne _ _ (by omega)]; exact p
      · rw [va_up_self, va_up_self]
        intro j hj
        by_cases z : j = tn
        · subst z
          rw [pk_us, pk_us]
          exact ⟨rfl, v, hv, rfl⟩
        · rw [pk_un z, pk_un z]
          exact t4 j (by omega)
      · rw [pk_un (by omega)]; exact d2
      · rw [pk_un (by omega), pk_un (by omega)]; exact d3
      · rw [va_up_ne _ _ (by omega)]; exact d4
      · rw [va_up_ne _ _ (by omega), va_up_ne _ _ (by omega), va_up_ne _ _ (by omega)]; exact kp
      · rw [pk_un (by omega)]; exact s2
      · rw [pk_un (by omega), pk_un (by omega)]; exact s3
      · rw [va_up_ne _ _ (by omega), va_up_ne _ _ (by omega), va_up_ne _ _ (by omega), va_up_ne _ _ (by omega), va_up_ne _ _ (by omega), va_up_ne _ _ (by omega)]; exact s4
      · rw [pk_un (by omega), pk_us]
    · obtain rfl : tn = 40 := by omega
      rw [if_neg (show ¬ nI 40 < 40 from nI_nlt (a := 40) (b := 40) (by omega) (by omega)), if_pos (show nI 40 = 40 from rfl), sh_b3_s rfl, if_pos rfl]
      refine ⟨_, _, _, _, _, rfl, rfl, ?_⟩
      rw [upd_id t2, va_up_id]
      exact HR
  · rw [sh_b1_s e, if_pos rfl]
    refine ⟨-2, I, A, _, _, ?_, rfl, HR⟩
    by_cases z : x < 0
    · rw [if_pos z]
    · rw [if_neg z, if_neg]
      intro z2
      rw [Int32.lt_iff_toInt_lt, show Int32.toInt 0 = 0 from rfl] at z
      rw [Int32.le_iff_toInt_le, show Int32.toInt 255 = 255 from rfl] at z2
      omega
theorem s_shade (HS : Sim I J A B I2 S A2) (x : Int32) : ∃ o I2', fX7_shade I B x = some o ∧ fX8_shade I2 A2 x = some (o, I2') ∧ Sim I J A B I2' S A2 := by
  obtain ⟨k, w, h, sh, tn, dn, sn, H⟩ := HS
  have h36 := H.1.1.n36
  unfold fX7_shade fX8_shade
  rcases dot_sp H.1 rfl x with ⟨d, hd, rfl, e1, e2⟩ | ⟨e1, e2⟩
  · rw [sh_b1_s e1, sh_b1_s e2, if_neg (by decide), if_pos rfl, sh_b1_s (p_of H.1.2.2 h36 H.1.sh9 hd), sh_b1_s (H.1.1.shade hd)]
    exact ⟨_, _, rfl, rfl, H.r.s⟩
  · rw [sh_b1_s e1, sh_b1_s e2, if_pos rfl, if_neg (by decide)]
    exact ⟨_, _, rfl, rfl, H.r.s⟩
theorem s_dots (HS : Sim I J A B I2 S A2) (x : Int32) : ∃ o I2', fX7_dots I J B x = some o ∧ fX8_dots I2 A2 x = some (o, I2') ∧ Sim I J A B I2' S A2 := by
  obtain ⟨k, w, h, sh, tn, dn, sn, H⟩ := HS
  unfold fX7_dots fX8_dots
  rcases dot_sp H.1 rfl x with ⟨d, hd, rfl, e1, e2⟩ | ⟨e1, e2⟩
  · rw [sh_b1_s e1, sh_b1_s e2, if_neg (by decide), if_pos rfl, sh_b1_s (p_nodeOf7 H.1 hd), sh_b1_s (p_nodeOf H.1.1 hd)]
    exact ⟨_, _, rfl, rfl, H.r.s⟩
  · rw [sh_b1_s e1, sh_b1_s e2, if_pos rfl, if_neg (by decide)]
    exact ⟨_, _, rfl, rfl, H.r.s⟩
theorem s_parts (HS : Sim I J A B I2 S A2) (x : Int32) : ∃ o I2', fX7_parts I J B x = some o ∧ fX8_parts I2 A2 x = some (o, I2') ∧ Sim I J A B I2' S A2 := by
  obtain ⟨k, w, h, sh, tn, dn, sn, H⟩ := HS
  unfold fX7_parts fX8_parts fX1_way
  rcases shade_sp x with ⟨v, hv, rfl, e1, e2⟩ | ⟨e1, e2⟩
  · rw [sh_b1_s e1, sh_b1_s e2, if_neg (by decide), if_neg (by decide), sh_b1_s (p_atLeast H.1.2.2 H.1.sh9 (by omega)), sh_b1_s rfl, H.1.2.1.1, sh_b1_s (p_countParts H.1.2.1 H.1.1.kk (fun i hi => up_lt hi)), sh_b1_s (p_partsOf1 H.1.1 (by omega))]
    exact ⟨_, _, rfl, rfl, H.r.s⟩
  · rw [sh_b1_s e1, sh_b1_s e2, if_pos rfl, if_pos rfl]
    exact ⟨_, _, rfl, rfl, H.r.s⟩
theorem s_steady (HS : Sim I J A B I2 S A2) (x1 x2 : Int32) : ∃ o I2', fX7_steady I J A B x1 x2 = some o ∧ fX8_steady I2 A2 x1 x2 = some (o, I2') ∧ Sim I J A B I2' S A2 := by
  obtain ⟨k, w, h, sh, tn, dn, sn, H⟩ := HS
  have h36 := H.1.1.n36
  unfold fX7_steady fX8_steady
  rcases dot_sp H.1 rfl x1 with ⟨d, hd, rfl, e1, e2⟩ | ⟨e1, e2⟩
  · rw [sh_b1_s e1, sh_b1_s e2, if_neg (by decide), if_pos rfl]
    rcases step_sp x2 with ⟨v, h1, hv, rfl, e3, e4⟩ | ⟨e3, e4⟩
    · obtain ⟨e, he⟩ := nd_dot (k := k) (sh := sh) hd
      obtain ⟨I3, e5, g5⟩ := p_isSteady8 H.1.1 he hv (upd I2 0 0)
      rw [sh_b1_s e3, sh_b1_s e4, if_neg (by decide), if_neg (by decide), sh_b1_s (p_nodeOf7 H.1 hd), sh_b1_s (p_of H.1.2.2 h36 H.1.sh9 hd), sh_b1_s (p_isSteady7 H.1 he hv _ _ _), show fX8_nodeOf (A2 2) (nI d) = some (zs (zC k w h sh (sh d) d)) from p_nodeOf H.1.1 hd, sh_b1_s rfl, sh_b2_s e5]
      have HR : Sim I J A B I3 S A2 := (H.r.same (I2' := I3) (fun _ _ _ => rfl) (fun _ _ _ => rfl) (fun _ _ _ _ => rfl) (fun j _ h4 h5 _ _ => g5 j h4 h5) (by rw [g5 0 (by omega) (by omega), pk_us]) (fun _ _ _ _ _ => rfl)).s
      cases zsd k w h sh (zC k w h sh (sh d) d) v (sh d) e with
      | false => rw [if_pos z01_f, if_pos z01_f]; exact ⟨_, _, rfl, rfl, HR⟩
      | true => rw [if_neg z01_t, if_neg z01_t]; exact ⟨_, _, rfl, rfl, HR⟩
    · rw [sh_b1_s e3, sh_b1_s e4, if_pos rfl, if_pos rfl]
      exact ⟨_, _, rfl, rfl, H.r.s⟩
  · rw [sh_b1_s e1, sh_b1_s e2, if_pos rfl, if_neg (by decide)]
    exact ⟨_, _, rfl, rfl, H.r.s⟩
theorem s_node (HS : Sim I J A B I2 S A2) (x1 x2 : Int32) : ∃ o I2', fX7_node I J A B x1 x2 = some o ∧ fX8_node I2 A2 x1 x2 = some (o, I2') ∧ Sim I J A B I2' S A2 := by
  obtain ⟨k, w, h, sh, tn, dn, sn, H⟩ := HS
  have h36 := H.1.1.n36
  have HR := H.r.s
  unfold fX7_node fX8_node
  rcases dot_sp H.1 rfl x1 with ⟨d, hd, rfl, e1, e2⟩ | ⟨e1, e2⟩
  · obtain ⟨e, he⟩ := nd_dot (k := k) (sh := sh) hd
    have hn8 : fX8_nodeOf (A2 2) (nI d) = some (zs (zC k w h sh (sh d) d)) := p_nodeOf H.1.1 hd
    have hN36 : ∀ i, zC k w h sh (sh d) d i = true → i < 36 := fun i hi => Nat.lt_of_lt_of_le (zC_lt hi) h36
    rw [sh_b1_s e1, sh_b1_s e2, if_neg (by decide), if_pos rfl, sh_b1_s (p_of H.1.2.2 h36 H.1.sh9 hd), sh_b1_s (p_nodeOf7 H.1 hd), sh_b1_s hn8]
    by_cases q : x2 = 0
    · rw [if_pos q, if_pos q, sh_b1_s (p_head7 H.1.2.2 h36 H.1.sh9 he.1), sh_b1_s (p_head8 H.1.1 (fun i hi => zC_lt hi) he.1)]
      exact ⟨_, _, rfl, rfl, HR⟩
    rw [if_neg q, if_neg q]
    by_cases q : x2 = 1
    · rw [if_pos q, if_pos q, sh_b1_s (p_level8 H.1.1 he.1)]
      exact ⟨_, _, rfl, rfl, HR⟩
    rw [if_neg q, if_neg q]
    by_cases q : x2 = 2
    · rw [if_pos q, if_pos q, sh_b1_s (p_bcs _), sh_b1_s (p_many _), zs_n]
      exact ⟨_, _, rfl, rfl, HR⟩
    rw [if_neg q, if_neg q]
    by_cases q : x2 = 3
    · rw [if_pos q, if_pos q, sh_b1_s (p_light7 H.1.2.2 h36 H.1.sh9 _), sh_b1_s (p_light8 H.1.1 _ _ (fun i _ => zb_zs' hN36 i))]
      exact ⟨_, _, rfl, rfl, HR⟩
    rw [if_neg q, if_neg q]
    by_cases q : x2 = 4
    · obtain ⟨r, er, hr⟩ := p_parentHead H.1 he (B 2) (A 1) (I 4)
      have hp := p_parent8 H.1.1 he
      unfold zpr at hp
      rw [if_pos q, if_pos q, sh_b1_s er, sh_b1_s hp]
      rcases hr with ⟨hz, rfl⟩ | ⟨s, e3, hz, hN, rfl⟩
      · rw [hz]
        dsimp only
        rw [if_pos (show zs (zC k w h sh (sh d) e) = zs (zC k w h sh (sh d) d) by rw [← he.2])]
        exact ⟨_, _, rfl, rfl, HR⟩
      · rw [hz]
        dsimp only
        obtain ⟨-, -, n2, -⟩ := nd_parent he hz
        rw [if_neg (fun z => n2 (zs_inj (fun i hi => Nat.lt_of_lt_of_le (zC_lt hi) h36) hN36 z)), sh_b1_s hp]
        rw [hz]
        dsimp only
        rw [sh_b1_s (p_head8 H.1.1 (fun i hi => zC_lt hi) hN.1)]
        exact ⟨_, _, rfl, rfl, HR⟩
    rw [if_neg q, if_neg q]
    by_cases q : x2 = 5
    · rw [if_pos q, if_pos q, sh_b1_s (p_children7 H.1 he), sh_b1_s (p_children8 H.1.1 he)]
      exact ⟨_, _, rfl, rfl, HR⟩
    rw [if_neg q, if_neg q]
    by_cases q : x2 = 6
    · rw [if_pos q, if_pos q, sh_b1_s (p_depth7 H.1 he), sh_b1_s (p_depth8 H.1.1 he)]
      exact ⟨_, _, rfl, rfl, HR⟩
    rw [if_neg q, if_neg q]
    by_cases q : x2 = 7
    · have b1 : fX8_box (A2 2) (zs (zC k w h sh (sh d) d)) 1 = some (nI (zbx w h true (zC k w h sh (sh d) d))) := p_boxc8 H.1.1 true (fun i hi => up_lt hi) (up_mk hd (Nat.le_refl _))
      rw [if_pos q, if_pos q, sh_b1_s (p_cols7 H.1.2.1 (fun i hi => zC_lt hi)), sh_b1_s b1]
      exact ⟨_, _, rfl, rfl, HR⟩
    rw [if_neg q, if_neg q]
    by_cases q : x2 = 8
    · have b1 : fX8_box (A2 2) (zs (zC k w h sh (sh d) d)) 0 = some (nI (zbx w h false (zC k w h sh (sh d) d))) := p_boxc8 H.1.1 false (fun i hi => up_lt hi) (up_mk hd (Nat.le_refl _))
      rw [if_pos q, if_pos q, sh_b1_s (p_rows7 H.1.2.1 (fun i hi => zC_lt hi)), sh_b1_s b1]
      exact ⟨_, _, rfl, rfl, HR⟩
    rw [if_neg q, if_neg q]
    by_cases q : x2 = 9
    · obtain ⟨b, hb, hm⟩ := ex_mx (n := w * h) (sh := sh) (S := zC k w h sh (sh d) d) (fun i hi => zC_lt hi) H.1.sh9 ⟨d, zC_self hd (Nat.le_refl _)⟩
      rw [if_pos q, if_pos q, sh_b1_s (p_rise7 H.1 he hb hm _ _ _), sh_b1_s (p_rise8 H.1.1 he hb hm)]
      exact ⟨_, _, rfl, rfl, HR⟩
    rw [if_neg q, if_neg q]
    exact ⟨_, _, rfl, rfl, HR⟩
  · rw [sh_b1_s e1, sh_b1_s e2, if_pos rfl, if_neg (by decide)]
    exact ⟨_, _, rfl, rfl, HR⟩
end
