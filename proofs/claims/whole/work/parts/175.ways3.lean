/-! all ways -/
theorem p_way2 {I : Nat → Int32} {J : Nat → Int64} {A : Nat → Nat → Int32} {B : Nat → Nat → Int64} {I2 : Nat → Int32} {S : Int64} {A2 : Nat → Nat → Int32} {k w h : Nat} {sh : Nat → Nat} {tn dn sn : Nat} (H : Simk k w h sh tn dn sn I J A B I2 S A2) {t c : Nat} {f : Int32} {I3 : Nat → Int32} (ht : t ≤ 9) (h3 : I3 3 = I2 3) (hc : c < 90) (W : Wy c f I3) (x : Int32) : ∃ c' f' I4, c' ≤ c + 2 ∧ fX7_ways_L30 sh_fu x (nI c) f (nI t) 4 I J A B = some (nI c', f') ∧ fX8_ways_L39 sh_fu x (nI t) 4 I3 A2 = some I4 ∧ Wy c' f' I4 ∧ ∀ j, j ≠ 6 → j ≠ 7 → I4 j = I3 j := by
  have hfu : sh_fu = 1997 + 1 + 1 + 1 := rfl
  obtain ⟨c1, f1, I4, b1, e1, g1, W1, r1⟩ := p_way1 H (K := 4) (Or.inl rfl) ht h3 (by omega) W x (1997 + 1 + 1) (1997 + 1 + 1)
  obtain ⟨c2, f2, I5, b2, e2, g2, W2, r2⟩ := p_way1 H (K := 8) (Or.inr rfl) ht (by rw [r1 3 (by omega) (by omega)]; exact h3) (by omega) W1 x (1997 + 1) (1997 + 1)
  refine ⟨c2, f2, I5, by omega, ?_, ?_, W2, fun j h6 h7 => by rw [r2 j h6 h7, r1 j h6 h7]⟩
  · rw [hfu, show (4 : Int32) = nI 4 from rfl, e1, show nI 4 + 4 = nI 8 from rfl]
    rw [show (4 : Int32) = nI 4 from rfl] at e2
    rw [e2, fX7_ways_L30_s, if_pos (show (8 : Int32) < nI 8 + nI 4 by decide)]
  · rw [hfu, show (4 : Int32) = nI 4 from rfl, g1, show nI 4 + 4 = nI 8 from rfl]
    rw [show (4 : Int32) = nI 4 from rfl] at g2
    rw [g2, fX8_ways_L39_s, if_pos (show (9 : Int32) ≤ nI 8 + nI 4 by decide)]
theorem p_way3 {I : Nat → Int32} {J : Nat → Int64} {A : Nat → Nat → Int32} {B : Nat → Nat → Int64} {I2 : Nat → Int32} {S : Int64} {A2 : Nat → Nat → Int32} {k w h : Nat} {sh : Nat → Nat} {tn dn sn : Nat} (H : Simk k w h sh tn dn sn I J A B I2 S A2) (x : Int32) : ∀ (r n t c : Nat) (f : Int32) (I3 : Nat → Int32), t + r = 10 → r < n → c ≤ 2 * t → I3 3 = I2 3 → Wy c f I3 → ∃ c' f' I4, fX7_ways_L20 n x (nI c) f (nI t) I J A B = some (nI c', f') ∧ fX8_ways_L31 n x (nI t) I3 A2 = some I4 ∧ Wy c' f' I4 ∧ ∀ j, j ≠ 6 → j ≠ 7 → I4 j = I3 j := by
  intro r
  induction r with
  | zero =>
    intro n t c f I3 ht hn hc h3 W
    obtain ⟨n, rfl⟩ : ∃ m, n = m + 1 := ⟨n - 1, by omega⟩
    obtain rfl : t = 10 := by omega
    rw [fX7_ways_L20_s, if_pos (show (9 : Int32) < nI 10 by decide), fX8_ways_L31_s, if_pos (show (9 : Int32) < nI 10 by decide)]
    exact ⟨c, f, I3, rfl, rfl, W, fun _ _ _ => rfl⟩
  | succ r ih =>
    intro n t c f I3 ht hn hc h3 W
    obtain ⟨n, rfl⟩ : ∃ m, n = m + 1 := ⟨n - 1, by omega⟩
    obtain ⟨c1, f1, I4, b1, e1, g1, W1, r1⟩ := p_way2 H (show t ≤ 9 by omega) h3 (by omega) W x
    rw [fX7_ways_L20_s, if_neg (show ¬ (9 : Int32) < nI t from nI_nlt (a := 9) (by omega) (by omega)), sh_b2_s e1, fX8_ways_L31_s, if_neg (show ¬ (9 : Int32) < nI t from nI_nlt (a := 9) (by omega) (by omega)), sh_b1_s g1, nI_1]
    obtain ⟨c2, f2, I5, e2, g2, W2, r2⟩ := ih n (t + 1) c1 f1 I4 (by omega) (by omega) (by omega) (by rw [r1 3 (by omega) (by omega)]; exact h3) W1
    exact ⟨c2, f2, I5, e2, g2, W2, fun j h6 h7 => by rw [r2 j h6 h7, r1 j h6 h7]⟩
theorem s_ways {I : Nat → Int32} {J : Nat → Int64} {A : Nat → Nat → Int32} {B : Nat → Nat → Int64} {I2 : Nat → Int32} {S : Int64} {A2 : Nat → Nat → Int32} (HS : Sim I J A B I2 S A2) (x : Int32) : ∃ o I2', fX7_ways I J A B x = some o ∧ fX8_ways I2 A2 x = some (o, I2') ∧ Sim I J A B I2' S A2 := by
  obtain ⟨k, w, h, sh, tn, dn, sn, H⟩ := HS
  obtain ⟨c, f, I4, e1, g1, W, r1⟩ := p_way3 H x 10 sh_fu 0 0 (-9) (upd (upd (upd I2 0 0) 6 0) 7 (-9)) (by omega) (by unfold sh_fu; omega) (by omega) (by rw [pk_un (by omega), pk_un (by omega), pk_un (by omega)]) ⟨by rw [pk_un (by omega), pk_us]; rfl, pk_us, ⟨fun _ => rfl, fun _ => rfl⟩⟩
  rw [nI_0] at e1 g1
  have HR : Sim I J A B I4 S A2 := (H.r.same (I2' := I4) (fun _ _ _ => rfl) (fun _ _ _ => rfl) (fun _ _ _ _ => rfl) (fun j h0 _ _ h6 h7 => by rw [r1 j h6 h7, pk_un h7, pk_un h6]) (by rw [r1 0 (by omega) (by omega), pk_un (by omega), pk_un (by omega), pk_us]) (fun _ _ _ _ _ => rfl)).s
  unfold fX7_ways fX8_ways
  rcases in_sp x (a := 0) (b := 1) (na := 0) (nb := 1) rfl rfl (by omega) with ⟨v, -, hv, rfl, e⟩ | ⟨e, q⟩
  · rw [sh_b1_s e, if_neg z10, sh_b1_s g1, sh_b2_s e1, W.1, W.2.1]
    by_cases z : v = 1
    · subst z
      rw [if_neg (show ¬ nI 1 = 0 by decide), if_pos (show nI 1 = 1 from rfl), if_neg (show ¬ nI 1 = 0 by decide), if_neg (show ¬ nI 1 = 0 by decide)]
      exact ⟨_, _, rfl, rfl, HR⟩
    · obtain rfl : v = 0 := by omega
      rw [if_pos (show nI 0 = 0 from rfl), if_pos (show nI 0 = 0 from rfl), if_pos (show nI 0 = 0 from rfl)]
      exact ⟨_, _, rfl, rfl, HR⟩
  · have h0 : ¬ x = 0 := fun z => by rw [z, show Int32.toInt 0 = 0 from rfl] at q; omega
    have h1 : ¬ x = 1 := fun z => by rw [z, show Int32.toInt 1 = 1 from rfl] at q; omega
    rw [sh_b1_s e, if_pos rfl, if_neg h0, if_neg h1]
    exact ⟨_, _, rfl, rfl, H.r.s⟩
