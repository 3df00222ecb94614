/-! ways -/
theorem p_hold {I : Nat → Int32} {J : Nat → Int64} {A : Nat → Nat → Int32} {B : Nat → Nat → Int64} {I2 : Nat → Int32} {S : Int64} {A2 : Nat → Nat → Int32} {k w h : Nat} {sh : Nat → Nat} {tn dn sn : Nat} (H : Simk k w h sh tn dn sn I J A B I2 S A2) {K t : Nat} (hK : K = 4 ∨ K = 8) (ht : t ≤ 9) {I3 : Nat → Int32} (h3 : I3 3 = I2 3) : ∃ b : Bool, fX3_hold (A 4) (A 5) (A 6) (I 7) (I 1) (I 2) (I 3) (J 0) (J 1) (J 2) (zs (up (w * h) sh t)) (nI K) = some (z01 b) ∧ fX8_explains I3 A2 (nI t) (nI K) = some (z01 b) := by
  obtain ⟨s1, s2, s3, s4⟩ := H.2.2.2.2.1
  obtain ⟨b, e1, e2⟩ := p_hold_L H.1 hK (T := up (w * h) sh t) (fun i hi => up_lt hi) s1 s4 (I2 := I3) (by rw [h3]; exact s3) rfl rfl rfl rfl sn sh_fu sh_fu 0 (by omega) (by unfold sh_fu; omega) (by unfold sh_fu; omega)
  rw [nI_0] at e1 e2
  unfold fX3_hold fX8_explains
  refine ⟨b, ?_, ?_⟩
  · rw [s2]
    cases b with
    | false => rw [sh_bs_l e1]; rfl
    | true => rw [sh_bs_r e1]; rfl
  · rw [sh_b1_s (p_bright1 H.1.1 (by omega)), sh_b1_s e2, sh_zr_01]
def Wy (c : Nat) (f : Int32) (I3 : Nat → Int32) : Prop := I3 6 = nI c ∧ I3 7 = f ∧ (c = 0 ↔ f = -9)
theorem z_w9 (t K : Nat) (ht : t ≤ 9) (hK : K ≤ 8) : ¬ (10 : Int32) * nI t + nI K = -9 := by
  rw [show (10 : Int32) = nI 10 from rfl, pk_mul, nI_add]
  exact z_ne9 _ (by omega)
theorem p_way1 {I : Nat → Int32} {J : Nat → Int64} {A : Nat → Nat → Int32} {B : Nat → Nat → Int64} {I2 : Nat → Int32} {S : Int64} {A2 : Nat → Nat → Int32} {k w h : Nat} {sh : Nat → Nat} {tn dn sn : Nat} (H : Simk k w h sh tn dn sn I J A B I2 S A2) {K t c : Nat} {f : Int32} {I3 : Nat → Int32} (hK : K = 4 ∨ K = 8) (ht : t ≤ 9) (h3 : I3 3 = I2 3) (hc : c < 100) (W : Wy c f I3) (x : Int32) (n m : Nat) : ∃ c' f' I4, c' ≤ c + 1 ∧ fX7_ways_L30 (n + 1) x (nI c) f (nI t) (nI K) I J A B = fX7_ways_L30 n x (nI c') f' (nI t) (nI K + 4) I J A B ∧ fX8_ways_L39 (m + 1) x (nI t) (nI K) I3 A2 = fX8_ways_L39 m x (nI t) (nI K + 4) I4 A2 ∧ Wy c' f' I4 ∧ ∀ j, j ≠ 6 → j ≠ 7 → I4 j = I3 j := by
  obtain ⟨b, e1, e2⟩ := p_hold H hK ht h3
  obtain ⟨w1, w2, w3⟩ := W
  rw [fX7_ways_L30_s, if_neg (show ¬ (8 : Int32) < nI K from nI_nlt (a := 8) (by omega) (by omega)), sh_b1_s (p_atLeast H.1.2.2 H.1.sh9 (by omega)), sh_b1_s e1, fX8_ways_L39_s, if_neg (show ¬ (9 : Int32) ≤ nI K from nI_ge (b := 9) (by omega) (by omega)), sh_b1_s e2]
  have hid : ∀ (a b : Int32), Wy c f (upd (upd I3 7 (I3 7)) 6 ((I3 6) + 0)) ∧ ∀ j, j ≠ 6 → j ≠ 7 → upd (upd I3 7 (I3 7)) 6 ((I3 6) + 0) j = I3 j := fun _ _ => ⟨⟨by rw [pk_us, w1]; simp, by rw [pk_un (by omega), pk_us, w2], w3⟩, fun j h6 h7 => by rw [pk_un h6, pk_un h7]⟩
  cases b with
  | false =>
    rw [if_pos z01_f, if_pos z01_f, if_pos z01_f]
    exact ⟨c, f, _, by omega, rfl, rfl, (hid 0 0).1, (hid 0 0).2⟩
  | true =>
    rw [if_neg z01_t, if_neg z01_t, if_neg z01_t, if_neg z01_t, w1, w2, nI_1]
    by_cases q : c = 0
    · rw [if_pos (w3.mp q), if_pos (show nI c = 0 by rw [q]; rfl)]
      exact ⟨c + 1, _, _, by omega, rfl, rfl, ⟨pk_us, by rw [pk_un (by omega), pk_us], ⟨fun z => by omega, fun z => absurd z (z_w9 t K ht (by omega))⟩⟩, fun j h6 h7 => by rw [pk_un h6, pk_un h7]⟩
    · rw [if_neg (fun z => q (w3.mpr z)), if_neg (nI_ne0 (by omega) (by omega))]
      exact ⟨c + 1, f, _, by omega, rfl, rfl, ⟨pk_us, by rw [pk_un (by omega), pk_us], ⟨fun z => by omega, fun z => absurd (w3.mpr z) q⟩⟩, fun j h6 h7 => by rw [pk_un h6, pk_un h7]⟩
