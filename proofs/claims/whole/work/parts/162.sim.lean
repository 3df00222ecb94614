/-! the two sides, held together -/
def Kp (k w h : Nat) (u : Nat → Int32) (o : Nat → Int64) (u2 b : Nat → Int32) : Prop := ∀ s, s < 2 → u s = u2 s ∧ (u s ≠ 0 → ∃ sh, Pic (fun j => b (39 * s + j)) k w h sh ∧ Lev (fun t => o (10 * s + t)) (w * h) sh)
def Tx (n : Nat) (a b : Nat → Int32) : Prop := ∀ j, j < n → a j = b j ∧ ∃ c : Nat, c ≤ 255 ∧ a j = nI c
def Sg (n : Nat) (a1 a2 a3 b1 b2 b3 : Nat → Int32) : Prop := ∀ j, j < n → (a1 j = b1 j ∧ a2 j = b2 j ∧ a3 j = b3 j) ∧ ∃ (x y : Nat) (c : Bool), x < 36 ∧ y < 36 ∧ a1 j = nI x ∧ a2 j = nI y ∧ a3 j = z01 c
def Simk (k w h : Nat) (sh : Nat → Nat) (tn dn sn : Nat) (I : Nat → Int32) (J : Nat → Int64) (A : Nat → Nat → Int32) (B : Nat → Nat → Int64) (I2 : Nat → Int32) (S : Int64) (A2 : Nat → Nat → Int32) : Prop :=
  Sys (A2 2) (I 1) (I 2) (I 3) (J 0) (J 1) (J 2) (B 0) k w h sh ∧
  (tn ≤ 40 ∧ I 0 = nI tn ∧ I2 1 = nI tn ∧ Tx tn (A 0) (A2 0)) ∧
  (dn ≤ 14 ∧ I 6 = nI dn ∧ I2 2 = nI dn ∧ Bk k w h dn (A2 5) (B 4)) ∧
  Kp k w h (A 3) (B 5) (A2 7) (A2 6) ∧
  (sn ≤ 6 ∧ I 7 = nI sn ∧ I2 3 = nI sn ∧ Sg sn (A 4) (A 5) (A 6) (A2 8) (A2 9) (A2 10)) ∧
  J 3 = S ∧ I2 0 = 0
def Sim (I : Nat → Int32) (J : Nat → Int64) (A : Nat → Nat → Int32) (B : Nat → Nat → Int64) (I2 : Nat → Int32) (S : Int64) (A2 : Nat → Nat → Int32) : Prop := ∃ k w h sh tn dn sn, Simk k w h sh tn dn sn I J A B I2 S A2
theorem Pic.of (p : Nat → Int32) {k w h : Nat} {sh : Nat → Nat} (H : Pic p k w h sh) : Pic (fun j => p j) k w h sh := H
/-- what is read again only is the same -/
theorem Simk.cong {k w h : Nat} {sh sh' : Nat → Nat} {tn dn sn : Nat} {I I' : Nat → Int32} {J : Nat → Int64} {A A' : Nat → Nat → Int32} {B B' : Nat → Nat → Int64} {I2 I2' : Nat → Int32} {S : Int64} {A2 A2' : Nat → Nat → Int32} (H : Simk k w h sh tn dn sn I J A B I2 S A2)
  (hI : ∀ j, j ≠ 4 → j ≠ 5 → I' j = I j) (hA : ∀ j, j ≠ 1 → j ≠ 2 → A' j = A j) (hB : ∀ j, j ≠ 0 → j ≠ 1 → j ≠ 2 → j ≠ 3 → B' j = B j) (hI2 : ∀ j, j ≠ 0 → j ≠ 4 → j ≠ 5 → j ≠ 6 → j ≠ 7 → I2' j = I2 j) (h0 : I2' 0 = 0) (hA2 : ∀ j, j ≠ 1 → j ≠ 2 → j ≠ 3 → j ≠ 4 → j ≠ 11 → A2' j = A2 j) (hP : Pic (A2' 2) k w h sh') (hL : Lev (B' 0) (w * h) sh') : Simk k w h sh' tn dn sn I' J A' B' I2' S A2' := by
  obtain ⟨⟨p1, p2, p3⟩, ⟨t1, t2, t3, t4⟩, ⟨d1, d2, d3, d4⟩, kp, ⟨s1, s2, s3, s4⟩, sd, th⟩ := H
  refine ⟨⟨hP, ?_, hL⟩, ⟨t1, ?_, ?_, ?_⟩, ⟨d1, ?_, ?_, ?_⟩, ?_, ⟨s1, ?_, ?_, ?_⟩, sd, h0⟩
  · rw [hI 1 (by omega) (by omega), hI 2 (by omega) (by omega), hI 3 (by omega) (by omega)]; exact p2
  · rw [hI 0 (by omega) (by omega)]; exact t2
  · rw [hI2 1 (by omega) (by omega) (by omega) (by omega) (by omega)]; exact t3
  · rw [hA 0 (by omega) (by omega), hA2 0 (by omega) (by omega) (by omega) (by omega) (by omega)]; exact t4
  · rw [hI 6 (by omega) (by omega)]; exact d2
  · rw [hI2 2 (by omega) (by omega) (by omega) (by omega) (by omega)]; exact d3
  · rw [hA2 5 (by omega) (by omega) (by omega) (by omega) (by omega), hB 4 (by omega) (by omega) (by omega) (by omega)]; exact d4
  · rw [hA 3 (by omega) (by omega), hB 5 (by omega) (by omega) (by omega) (by omega), hA2 7 (by omega) (by omega) (by omega) (by omega) (by omega), hA2 6 (by omega) (by omega) (by omega) (by omega) (by omega)]; exact kp
  · rw [hI 7 (by omega) (by omega)]; exact s2
  · rw [hI2 3 (by omega) (by omega) (by omega) (by omega) (by omega)]; exact s3
  · rw [hA 4 (by omega) (by omega), hA 5 (by omega) (by omega), hA 6 (by omega) (by omega), hA2 8 (by omega) (by omega) (by omega) (by omega) (by omega), hA2 9 (by omega) (by omega) (by omega) (by omega) (by omega), hA2 10 (by omega) (by omega) (by omega) (by omega) (by omega)]; exact s4
/-- nothing of it changed -/
theorem Simk.same {k w h : Nat} {sh : Nat → Nat} {tn dn sn : Nat} {I I' : Nat → Int32} {J : Nat → Int64} {A A' : Nat → Nat → Int32} {B B' : Nat → Nat → Int64} {I2 I2' : Nat → Int32} {S : Int64} {A2 A2' : Nat → Nat → Int32} (H : Simk k w h sh tn dn sn I J A B I2 S A2)
  (hI : ∀ j, j ≠ 4 → j ≠ 5 → I' j = I j) (hA : ∀ j, j ≠ 1 → j ≠ 2 → A' j = A j) (hB : ∀ j, j ≠ 1 → j ≠ 2 → j ≠ 3 → B' j = B j) (hI2 : ∀ j, j ≠ 0 → j ≠ 4 → j ≠ 5 → j ≠ 6 → j ≠ 7 → I2' j = I2 j) (h0 : I2' 0 = 0) (hA2 : ∀ j, j ≠ 1 → j ≠ 3 → j ≠ 4 → j ≠ 11 → A2' j = A2 j) : Simk k w h sh tn dn sn I' J A' B' I2' S A2' :=
  H.cong hI hA (fun j _ b c d => hB j b c d) hI2 h0 (fun j a _ c d e => hA2 j a c d e) (by rw [hA2 2 (by omega) (by omega) (by omega) (by omega)]; exact H.1.1) (by rw [hB 0 (by omega) (by omega) (by omega)]; exact H.1.2.2)
theorem Simk.r {k w h : Nat} {sh : Nat → Nat} {tn dn sn : Nat} {I : Nat → Int32} {J : Nat → Int64} {A : Nat → Nat → Int32} {B : Nat → Nat → Int64} {I2 : Nat → Int32} {S : Int64} {A2 : Nat → Nat → Int32} (H : Simk k w h sh tn dn sn I J A B I2 S A2) : Simk k w h sh tn dn sn I J A B (upd I2 0 0) S A2 := H.same (fun _ _ _ => rfl) (fun _ _ _ => rfl) (fun _ _ _ _ => rfl) (fun j hj _ _ _ _ => pk_un hj) pk_us (fun _ _ _ _ _ => rfl)
theorem Simk.s {k w h : Nat} {sh : Nat → Nat} {tn dn sn : Nat} {I : Nat → Int32} {J : Nat → Int64} {A : Nat → Nat → Int32} {B : Nat → Nat → Int64} {I2 : Nat → Int32} {S : Int64} {A2 : Nat → Nat → Int32} (H : Simk k w h sh tn dn sn I J A B I2 S A2) : Sim I J A B I2 S A2 := ⟨k, w, h, sh, tn, dn, sn, H⟩
/-! arguments -/
theorem p_inI (x : Int32) {a b : Int64} {na nb : Int} (ha : a.toInt = na) (hb : b.toInt = nb) : fX8_in (Int32.toInt64 x) a b = some (z01 (decide (na ≤ x.toInt ∧ x.toInt ≤ nb))) := by
  rw [p_in]
  congr 2
  apply decide_eq_decide.mpr
  rw [Int64.le_iff_toInt_le, Int64.le_iff_toInt_le, Int32.toInt_toInt64, ha, hb]
/-- in a range, or out of it -/
theorem in_sp (x : Int32) {a b : Int64} {na nb : Nat} (ha : a.toInt = (na : Int)) (hb : b.toInt = (nb : Int)) (hn : nb < 2 ^ 31) : (∃ v : Nat, na ≤ v ∧ v ≤ nb ∧ x = nI v ∧ fX8_in (Int32.toInt64 x) a b = some 1) ∨ (fX8_in (Int32.toInt64 x) a b = some 0 ∧ (x.toInt < (na : Int) ∨ (nb : Int) < x.toInt)) := by
  rw [p_inI x ha hb]
  by_cases q : (na : Int) ≤ x.toInt ∧ x.toInt ≤ (nb : Int)
  · refine Or.inl ⟨x.toInt.toNat, by omega, by omega, ?_, by rw [decide_eq_true q]; rfl⟩
    apply Int32.toInt_inj.mp
    rw [nI_toInt (by omega)]
    omega
  · exact Or.inr ⟨by rw [decide_eq_false q]; rfl, by omega⟩
theorem dot_sp {p : Nat → Int32} {gw gd gh : Int32} {ga gl gr : Int64} {sL : Nat → Int64} {k w h : Nat} {sh : Nat → Nat} {A2 : Nat → Nat → Int32} (H : Sys p gw gd gh ga gl gr sL k w h sh) (hA : A2 2 = p) (x : Int32) : (∃ d : Nat, d < w * h ∧ x = nI d ∧ fX1_hasDot gd gh x = some 1 ∧ fX8_noDot A2 x = some 0) ∨ (fX1_hasDot gd gh x = some 0 ∧ fX8_noDot A2 x = some 1) := by
  have h36 := H.1.n36
  have h0 := H.1.n0
  unfold fX8_noDot
  rw [hA, sh_b1_s H.1.dots, show nI (w * h) - 1 = nI (w * h - 1) from pk_sub (b := 1) (by omega)]
  have hb : (Int32.toInt64 (nI (w * h - 1))).toInt = ((w * h - 1 : Nat) : Int) := by rw [Int32.toInt_toInt64, nI_toInt (by omega)]
  rcases in_sp x (a := 0) (na := 0) rfl hb (by omega) with ⟨v, -, hv, rfl, e⟩ | ⟨e, q⟩
  · refine Or.inl ⟨v, by omega, rfl, p_hasDot H.2.1.2.1 H.2.1.2.2.1 (by omega) (by omega), ?_⟩
    rw [sh_b1_s e, if_neg (by decide)]
  · refine Or.inr ⟨p_hasDot0 H.2.1.2.1 H.2.1.2.2.1 ?_, ?_⟩
    · rcases q with q | q
      · left
        rw [Int32.lt_iff_toInt_lt]
        exact q
      · right
        rw [Int32.le_iff_toInt_le, nI_toInt (by omega)]
        omega
    · rw [sh_b1_s e, if_pos rfl]
theorem shade_sp (x : Int32) : (∃ v : Nat, v ≤ 9 ∧ x = nI v ∧ fX7_isShade x = some 1 ∧ fX8_in (Int32.toInt64 x) 0 9 = some 1) ∨ (fX7_isShade x = some 0 ∧ fX8_in (Int32.toInt64 x) 0 9 = some 0) := by
  unfold fX7_isShade
  rcases in_sp x (a := 0) (b := 9) (na := 0) (nb := 9) rfl rfl (by omega) with ⟨v, -, hv, rfl, e⟩ | ⟨e, q⟩
  · refine Or.inl ⟨v, hv, rfl, ?_, e⟩
    rw [if_neg (nI_pos (by omega)), if_neg (show ¬ (9 : Int32) < nI v from nI_nlt (a := 9) hv (by omega))]
  · refine Or.inr ⟨?_, e⟩
    rcases q with q | q
    · rw [if_pos (by rw [Int32.lt_iff_toInt_lt]; exact q)]
    · have q9 : (9 : Int32) < x := by rw [Int32.lt_iff_toInt_lt]; exact q
      by_cases z : x < 0
      · rw [if_pos z]
      · rw [if_neg z, if_pos q9]
theorem step_sp (x : Int32) : (∃ v : Nat, 1 ≤ v ∧ v ≤ 9 ∧ x = nI v ∧ fX7_isStep x = some 1 ∧ fX8_in (Int32.toInt64 x) 1 9 = some 1) ∨ (fX7_isStep x = some 0 ∧ fX8_in (Int32.toInt64 x) 1 9 = some 0) := by
  unfold fX7_isStep
  rcases in_sp x (a := 1) (b := 9) (na := 1) (nb := 9) rfl rfl (by omega) with ⟨v, h1, hv, rfl, e⟩ | ⟨e, q⟩
  · refine Or.inl ⟨v, h1, hv, rfl, ?_, e⟩
    rw [if_neg (show ¬ nI v < 1 from nI_nlt (b := 1) h1 (by omega)), if_neg (show ¬ (9 : Int32) < nI v from nI_nlt (a := 9) hv (by omega))]
  · refine Or.inr ⟨?_, e⟩
    rcases q with q | q
    · rw [if_pos (by rw [Int32.lt_iff_toInt_lt]; exact q)]
    · have q9 : (9 : Int32) < x := by rw [Int32.lt_iff_toInt_lt]; exact q
      by_cases z : x < 1
      · rw [if_pos z]
      · rw [if_neg z, if_pos q9]
