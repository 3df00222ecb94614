/-! pictures drawn at random -/
theorem lsr_33 (y : Int64) : ∃ r : Nat, r < 2 ^ 31 ∧ sh_lsr y 33 = lN r := by
  have hb : ∀ i, i ≥ 31 → (sh_lsr y 33).toBitVec.toNat.testBit i = false := fun i hi => by
    have h1 : zb (sh_lsr y (nI 33)) i = zb y (33 + i) := zb_lsr y (by omega) i
    exact h1.trans (zb_big (by omega))
  have hr := Nat.lt_pow_two_of_testBit _ hb
  refine ⟨_, hr, ?_⟩
  apply Int64.toBitVec_inj.mp
  apply BitVec.eq_of_toNat_eq
  show _ = (BitVec.ofNat 64 _).toNat
  rw [BitVec.toNat_ofNat, Nat.mod_eq_of_lt (by omega)]
theorem p_change {I : Nat → Int32} {J : Nat → Int64} {B : Nat → Nat → Int64} {A2 : Nat → Nat → Int32} {k w h : Nat} {sh : Nat → Nat} (H : Sys (A2 3) (I 1) (I 2) (I 3) (J 0) (J 1) (J 2) (B 1) k w h sh) {r : Nat} (hr : r < 2 ^ 31) : ∃ L A3 sh', fX7_change I J B (lN r) = some (va_up B 1 L) ∧ (sh_b1 (sh_rem (nI r) (nI (w * h))) fun v10 => fX8_goDraw A2 v10 ((nI r / 64) - (nI r / 64) / 12 * 12)) = some A3 ∧ (∀ j, j ≠ 3 → j ≠ 4 → A3 j = A2 j) ∧ Sys (A3 3) (I 1) (I 2) (I 3) (J 0) (J 1) (J 2) L k w h sh' := by
  have h36 := H.1.n36
  have hn0 := H.1.n0
  have hm : r % (w * h) < w * h := Nat.mod_lt _ hn0
  have hd : r / 64 < 2 ^ 31 := by omega
  have ht : r / 64 % 12 < 12 := Nat.mod_lt _ (by omega)
  unfold fX7_change fX1_size fX8_goDraw sh_remL
  rw [sh_b1_s rfl, H.2.1.2.1, H.2.1.2.2.1, pk_mul, if_pos (show (1 : Int32) ≤ nI (w * h) from nI_le (a := 1) (by omega) (by omega)), nI_l (show w * h < 2 ^ 31 by omega), if_neg (fun z => by have := (lN_injI (b := 0) (show w * h < 2 ^ 63 by omega) (by omega)).mp z; omega), sh_b1_s rfl, p_remL (show r < 2 ^ 63 by omega) (show w * h < 2 ^ 63 by omega), show lN r / 64 = lN (r / 64) from p_divL (d := 64) (by omega) (by omega), show lN (r / 64) - lN (r / 64) / 12 * 12 = lN (r / 64 % 12) from p_remL (d := 12) (by omega) (by omega), lN_i, lN_i, sh_b1_s (sh_rem_n hr hn0 (by omega)), show nI r / 64 = nI (r / 64) from pk_div (d := 64) hr (by omega) (by omega), show nI (r / 64) - nI (r / 64) / 12 * 12 = nI (r / 64 % 12) from pk_rem (d := 12) hd (by omega) (by omega)]
  generalize r / 64 % 12 = t at ht
  generalize r % (w * h) = d at hm
  rcases Nat.lt_or_ge 9 t with q | q
  · rw [if_pos (show (9 : Int32) < nI t from nI_lt (a := 9) q (by omega)), if_pos (show (10 : Int32) ≤ nI t from nI_le (a := 10) (by omega) (by omega))]
    by_cases q2 : t = 10
    · obtain ⟨L, e, HL⟩ := p_turn7 h36 H.2.1.2.2.2.1 H.sh9 H.2.2
      obtain ⟨p2, e2, P2⟩ := p_neg8 H.1
      rw [if_pos (show nI t = 10 by rw [q2]; rfl), if_pos (show nI t = 10 by rw [q2]; rfl), sh_b1_s e, sh_b1_s e2]
      refine ⟨L, _, fun i => 9 - sh i, rfl, rfl, fun j h3 _ => va_up_ne _ _ h3, ?_⟩
      rw [va_up_self]
      exact ⟨P2, by have := H.2.1; rw [H.2.1.2.1, H.2.1.2.2.1] at this; exact this, HL⟩
    · obtain ⟨m0, hm0⟩ := ex_m0 (sh := sh) hn0
      obtain ⟨L, e5, L5⟩ := p_thin H.2.1 H.2.2 H.sh9 false (m := 2) (by omega) hm0
      obtain ⟨A3, e6, P6, r6⟩ := p_goSift_t (A := A2) H.1 false (m := 2) (by omega) hm0
      rw [H.2.1.2.1, H.2.1.2.2.1] at e5
      have hq2 : ¬ nI t = 10 := fun z => q2 ((nI_eq (b := 10) (by omega) (by omega)).mp z)
      rw [if_neg hq2, if_neg hq2, show (0 : Int32) = z01 false from rfl, show (2 : Int32) = nI 2 from rfl, sh_b2_s e5, sh_b2_s e6]
      refine ⟨L, A3, _, rfl, rfl, r6, P6, ?_, L5⟩
      have := H.2.1
      rw [H.2.1.2.1, H.2.1.2.2.1] at this
      exact this
  · obtain ⟨L, e, HL⟩ := p_set7 h36 hm (show t ≤ 9 by omega) H.2.2
    have P2 := H.1.paint (d := d) (v := t) (by omega)
    rw [if_neg (show ¬ (9 : Int32) < nI t from nI_nlt (a := 9) q (by omega)), if_neg (show ¬ (10 : Int32) ≤ nI t from nI_ge (b := 10) (by omega) (by omega)), sh_b1_s e, sh_b1_s (H.1.stp hm _)]
    refine ⟨L, _, fun i => if i = d then t else sh i, rfl, rfl, fun j h3 _ => va_up_ne _ _ h3, ?_⟩
    rw [va_up_self]
    exact ⟨P2, by have := H.2.1; rw [H.2.1.2.1, H.2.1.2.2.1] at this; exact this, HL⟩
theorem p_drawn_L {I2 : Nat → Int32} {k w h x : Nat} (hx : x ≤ 20) : ∀ (r n i : Nat) (c : Int32) (I : Nat → Int32) (J : Nat → Int64) (A : Nat → Nat → Int32) (B : Nat → Nat → Int64) (S : Int64) (A2 : Nat → Nat → Int32) (sh : Nat → Nat), i + r = x → r < n → J 3 = S → Sys (A2 3) (I 1) (I 2) (I 3) (J 0) (J 1) (J 2) (B 1) k w h sh → ∃ o I' S' A' B' A2', fX7_drawn_L29 n (nI x) c (nI i) I J A B = some (o, I', vp_updL J 3 S', A', B') ∧ fX8_drawn_L28 n (nI x) c (nI i) S A2 = some (o, S', A2') ∧ (∀ j, j ≠ 5 → I' j = I j) ∧ (∀ j, j ≠ 2 → A' j = A j) ∧ (∀ j, j ≠ 1 → j ≠ 3 → B' j = B j) ∧ ∀ j, j ≠ 3 → j ≠ 4 → A2' j = A2 j := by
  intro r
  induction r with
  | zero =>
    intro n i c I J A B S A2 sh hi hn hJ H
    obtain ⟨n, rfl⟩ : ∃ m, n = m + 1 := ⟨n - 1, by omega⟩
    obtain rfl : i = x := by omega
    rw [fX7_drawn_L29_s, if_pos (nI_le (Nat.le_refl _) (by omega)), fX8_drawn_L28_s, if_pos (nI_le (Nat.le_refl _) (by omega))]
    refine ⟨c, I, S, A, B, A2, ?_, rfl, fun _ _ => rfl, fun _ _ => rfl, fun _ _ _ => rfl, fun _ _ _ => rfl⟩
    rw [show vp_updL J 3 S = J from funext fun j => by
      by_cases z : j = 3
      · rw [z, pk_uLs, hJ]
      · rw [pk_uLn z]]
  | succ r ih =>
    intro n i c I J A B S A2 sh hi hn hJ H
    obtain ⟨n, rfl⟩ : ∃ m, n = m + 1 := ⟨n - 1, by omega⟩
    rw [fX7_drawn_L29_s, if_neg (nI_ge (by omega) (by omega)), fX8_drawn_L28_s, if_neg (nI_ge (by omega) (by omega)), hJ]
    generalize S * 6364136223846793005 + 1442695040888963407 = T
    obtain ⟨q, hq, eq⟩ := lsr_33 T
    have HJ : ∀ j, j ≠ 3 → vp_updL J 3 T j = J j := fun j hj => pk_uLn hj
    have HT : Sys (A2 3) (I 1) (I 2) (I 3) (vp_updL J 3 T 0) (vp_updL J 3 T 1) (vp_updL J 3 T 2) (B 1) k w h sh := by
      rw [HJ 0 (by omega), HJ 1 (by omega), HJ 2 (by omega)]; exact H
    obtain ⟨L, A3, sh', e1, e2, e3, H3⟩ := p_change HT hq
    rw [HJ 0 (by omega), HJ 1 (by omega), HJ 2 (by omega)] at H3
    obtain ⟨a, b, z, en⟩ := p_nodes7 H3 (B 3) (A 2)
    have e2' : ∀ {β : Type} (K : (Nat → Nat → Int32) → Option β), (sh_b1 (sh_rem (nI q) (nI (w * h))) fun v10 => sh_b1 (fX8_goDraw A2 v10 ((nI q / 64) - (nI q / 64) / 12 * 12)) K) = K A3 := fun {β} K => by
      unfold sh_rem at e2 ⊢
      by_cases z : nI (w * h) = 0
      · rw [if_pos z] at e2; exact nomatch e2
      · rw [if_neg z] at e2 ⊢
        rw [sh_b1_s rfl] at e2 ⊢
        rw [sh_b1_s e2]
    rw [eq, sh_b1_s e1, va_up_self, va_up_ne _ _ (show 3 ≠ 1 by omega), sh_b4_s en, lN_i]
    unfold sh_nm
    dsimp only
    rw [sh_b1_s H.1.dots, e2', sh_b1_s (p_nodes8 H3.1), nI_1]
    obtain ⟨o, I', S', A', B', A2', f1, f2, g1, g2, g3, g4⟩ := ih n (i + 1) (c + nI (fb_ct (zh k w h sh') 36)) (upd I 5 z) (vp_updL J 3 T) (va_up A 2 b) (va_up (va_up B 1 L) 3 a) T A3 sh' (by omega) (by omega) pk_uLs (by
      rw [pk_un (by omega), pk_un (by omega), pk_un (by omega), HJ 0 (by omega), HJ 1 (by omega), HJ 2 (by omega), va_up_ne _ _ (by omega), va_up_self]; exact H3)
    refine ⟨o, I', S', A', B', A2', ?_, f2, fun j h5 => by rw [g1 j h5, pk_un h5], fun j h2 => by rw [g2 j h2, va_up_ne _ _ h2], fun j h1 h3 => by rw [g3 j h1 h3, va_up_ne _ _ h3, va_up_ne _ _ h1], fun j h3 h4 => by rw [g4 j h3 h4, e3 j h3 h4]⟩
    rw [f1, show vp_updL (vp_updL J 3 T) 3 S' = vp_updL J 3 S' from funext fun j => by
      by_cases z : j = 3
      · rw [z, pk_uLs, pk_uLs]
      · rw [pk_uLn z, pk_uLn z, pk_uLn z]]
theorem s_drawn {I : Nat → Int32} {J : Nat → Int64} {A : Nat → Nat → Int32} {B : Nat → Nat → Int64} {I2 : Nat → Int32} {S : Int64} {A2 : Nat → Nat → Int32} (HS : Sim I J A B I2 S A2) (x : Int32) : ∃ o I' J' A' B' I2' S' A2', fX7_drawn I J A B x = some (o, I', J', A', B') ∧ fX8_drawn I2 S A2 x = some (o, I2', S', A2') ∧ Sim I' J' A' B' I2' S' A2' := by
  obtain ⟨k, w, h, sh, tn, dn, sn, H⟩ := HS
  have HR := H.r.s
  unfold fX7_drawn fX8_drawn
  rcases in_sp x (a := 1) (b := 20) (na := 1) (nb := 20) rfl rfl (by omega) with ⟨v, h1, hv, rfl, e⟩ | ⟨e, q⟩
  · obtain ⟨L0, ec, HC⟩ := p_copy7 (sL := B 1) H.1.2.2
    obtain ⟨f, eb, b1, b2⟩ := p_begin_L2 39 sh_fu 0 A2 (by omega) (by unfold sh_fu; omega)
    rw [nI_0] at eb
    have PT : Pic f k w h sh := H.1.1.congp (fun j hj => by rw [show f j = f (0 + j) by rw [Nat.zero_add]]; rw [Nat.zero_add]; exact (b1 j (by omega) hj).symm)
    obtain ⟨o, I', S', A', B', A2', f1, f2, g1, g2, g3, g4⟩ := p_drawn_L (I2 := I2) (k := k) (w := w) (h := h) hv v sh_fu 0 0 I J A (va_up B 1 L0) S (va_up A2 3 f) sh (by omega) (by unfold sh_fu; omega) H.2.2.2.2.2.1 (by rw [va_up_self, va_up_self]; exact ⟨PT, H.1.2.1, HC⟩)
    rw [nI_0] at f1 f2
    rw [if_neg (show ¬ nI v < 1 from nI_nlt (b := 1) h1 (by omega)), if_pos (show nI v ≤ 20 from nI_le (b := 20) hv (by omega)), sh_b1_s ec, sh_b5_s f1, sh_b1_s e, if_neg z10]
    unfold fX8_begin
    rw [sh_b1_s eb, sh_b1_s rfl, sh_b3_s f2]
    have HZ := H.r.same (I' := I') (A' := A') (B' := B') (A2' := A2') (fun j _ h5 => g1 j h5) (fun j _ h2 => g2 j h2) (fun j h1 _ h3 => by rw [g3 j h1 h3, va_up_ne _ _ h1]) (fun _ _ _ _ _ _ => rfl) pk_us (fun j _ h3 h4 _ => by rw [g4 j h3 h4, va_up_ne _ _ h3])
    obtain ⟨z1, z2, z3, z4, z5, z6, z7⟩ := HZ
    refine ⟨_, _, _, _, _, _, _, _, rfl, rfl, k, w, h, sh, tn, dn, sn, ?_, z2, z3, z4, z5, pk_uLs, z7⟩
    rw [pk_uLn (by omega), pk_uLn (by omega), pk_uLn (by omega)]; exact z1
  · rw [sh_b1_s e, if_pos rfl]
    refine ⟨-2, I, J, A, B, _, _, _, ?_, rfl, HR⟩
    by_cases z : x < 1
    · rw [if_pos z]
    · rw [if_neg z, if_neg]
      intro z2
      rw [Int32.lt_iff_toInt_lt, show Int32.toInt 1 = 1 from rfl] at z
      rw [Int32.le_iff_toInt_le, show Int32.toInt 20 = 20 from rfl] at z2
      omega
