/-! what hangs together with some dots -/
noncomputable def zq (k w : Nat) (S F : Nat → Bool) : Nat → Bool := fun e => @decide (∃ d, F d = true ∧ zc k w S d e) (Classical.propDecidable _)
theorem zq_iff {k w : Nat} {S F : Nat → Bool} {e : Nat} : zq k w S F e = true ↔ ∃ d, F d = true ∧ zc k w S d e := by unfold zq; exact @decide_eq_true_iff _ (Classical.propDecidable _)
theorem zq_one {k w : Nat} {S : Nat → Bool} {d : Nat} : zq k w S (fun i => decide (i = d)) = zp k w S d := by
  funext e
  apply Bool.eq_iff_iff.mpr
  rw [zq_iff, zp_iff]
  constructor
  · rintro ⟨x, hx, hc⟩
    simp only [decide_eq_true_eq] at hx
    subst hx
    exact hc
  · exact fun h => ⟨d, by simp, h⟩
/-- .. with dots that hang together themselves: their part -/
theorem zq_conn {k w : Nat} {S F : Nat → Bool} {d : Nat} (hd : F d = true) (hF : ∀ i, F i = true → zc k w S d i) : zq k w S F = zp k w S d := by
  funext e
  apply Bool.eq_iff_iff.mpr
  rw [zq_iff, zp_iff]
  constructor
  · rintro ⟨x, hx, hc⟩
    exact zc_trans (hF x hx) hc
  · exact fun h => ⟨d, hd, h⟩
theorem ct_strict {P Q : Nat → Bool} : ∀ {n : Nat}, (∀ k, k < n → P k = true → Q k = true) → (∃ k, k < n ∧ P k = false ∧ Q k = true) → fb_ct P n < fb_ct Q n := by
  intro n h hx
  obtain ⟨k, hk, h1, h2⟩ := hx
  have hu := fb_ct_upd P true (i := k) (n := n) hk
  rw [h1] at hu
  have hu2 : fb_ct (fun j => if j = k then true else P j) n + 0 = fb_ct P n + 1 := hu
  have hs : fb_ct (fun j => if j = k then true else P j) n ≤ fb_ct Q n := fb_ct_sub (fun j hj hp => by
    by_cases hjk : j = k
    · subst hjk; exact h2
    · simp only [hjk, if_false] at hp
      exact h j hj hp)
  omega
theorem p_around7_L {gw gd gh : Int32} {ga gl gr : Int64} {k w h K : Nat} (H : Lay gw gd gh ga gl gr k w h) (hK : K = 4 ∨ K = 8) {S F : Nat → Bool} (hS : ∀ i, S i = true → i < w * h) : ∀ (r n j : Nat) (P : Nat → Bool), j + r = 35 → r < n → (∀ i, P i = true → ∃ d, F d = true ∧ zc K w S d i) → (∀ i, F i = true → S i = true → P i = true) → ((∀ i, P i = false) ∨ j + 1 ≤ fb_ct P 36) →
    fX1_partAround_L8 n (zs S) (nI K) (zs P) (nI j) gd gl gr = some (zs (zq K w S F)) := by
  have h36 : w * h ≤ 36 := z36 H.2.2.2.2.2.2.2.1 H.2.2.2.2.2.2.2.2
  intro r
  induction r with
  | zero =>
    intro n j P hj hn hP hF hc
    obtain ⟨n, rfl⟩ : ∃ m, n = m + 1 := ⟨n - 1, by omega⟩
    have hPS : ∀ i, P i = true → S i = true := fun i hi => by obtain ⟨d, -, hz⟩ := hP i hi; exact zc_in hz
    have hP36 : ∀ i, P i = true → i < 36 := fun i hi => Nat.lt_of_lt_of_le (hS i (hPS i hi)) h36
    obtain ⟨y, hy, hyb⟩ := p_spread7 H hK (P := P) (fun i hi => hS i (hPS i hi))
    have hw : y &&& zs S = zs (fun e => zb y e && S e) := zs_ext (fun i => by
      rw [zb_and, zb_zs]
      cases decide (i < 36) <;> simp)
    have hW36 : ∀ e, (zb y e && S e) = true → e < 36 := fun e he => by simp only [Bool.and_eq_true] at he; exact Nat.lt_of_lt_of_le (hS e he.2) h36
    have hPW : ∀ e, P e = true → (zb y e && S e) = true := fun e he => by
      simp only [Bool.and_eq_true]
      exact ⟨(hyb e (hS e (hPS e he))).mpr (Or.inl he), hPS e he⟩
    have hfix : (fun e => zb y e && S e) = P := by
      rcases hc with hc | hc
      · funext e
        rw [hc e]
        apply Bool.eq_false_iff.mpr
        intro q
        simp only [Bool.and_eq_true] at q
        rcases (hyb e (hS e q.2)).mp q.1 with z | ⟨a, ha, -⟩
        · rw [hc e] at z; exact nomatch z
        · rw [hc a] at ha; exact nomatch ha
      · have hall := fb_ct_all.mp (Nat.le_antisymm (fb_ct_le P 36) (by omega))
        funext e
        cases he : P e with
        | true => exact hPW e he
        | false =>
          apply Bool.eq_false_iff.mpr
          intro q
          rw [hall e (hW36 e q)] at he
          exact nomatch he
    rw [fX1_partAround_L8_s, if_neg (show ¬ (36 : Int32) ≤ nI j from nI_ge (b := 36) (by omega) (by omega)), sh_b1_s hy, hw, hfix, if_pos rfl]
    congr 2
    funext e
    apply Bool.eq_iff_iff.mpr
    rw [zq_iff]
    constructor
    · exact hP e
    · rintro ⟨d, hd, hz⟩
      refine zc_ind hz (fun x => P x = true) (hF d hd hz.1) (fun a b ha _ hb hab => ?_)
      rw [← hfix]
      simp only [Bool.and_eq_true]
      exact ⟨(hyb b (hS b hb)).mpr (Or.inr ⟨a, ha, hab⟩), hb⟩
  | succ r ih =>
    intro n j P hj hn hP hF hc
    obtain ⟨n, rfl⟩ : ∃ m, n = m + 1 := ⟨n - 1, by omega⟩
    have hPS : ∀ i, P i = true → S i = true := fun i hi => by obtain ⟨d, -, hz⟩ := hP i hi; exact zc_in hz
    have hP36 : ∀ i, P i = true → i < 36 := fun i hi => Nat.lt_of_lt_of_le (hS i (hPS i hi)) h36
    obtain ⟨y, hy, hyb⟩ := p_spread7 H hK (P := P) (fun i hi => hS i (hPS i hi))
    have hw : y &&& zs S = zs (fun e => zb y e && S e) := zs_ext (fun i => by
      rw [zb_and, zb_zs]
      cases decide (i < 36) <;> simp)
    have hW36 : ∀ e, (zb y e && S e) = true → e < 36 := fun e he => by simp only [Bool.and_eq_true] at he; exact Nat.lt_of_lt_of_le (hS e he.2) h36
    have hPW : ∀ e, P e = true → (zb y e && S e) = true := fun e he => by
      simp only [Bool.and_eq_true]
      exact ⟨(hyb e (hS e (hPS e he))).mpr (Or.inl he), hPS e he⟩
    rw [fX1_partAround_L8_s, if_neg (show ¬ (36 : Int32) ≤ nI j from nI_ge (b := 36) (by omega) (by omega)), sh_b1_s hy, hw]
    by_cases hfix : (fun e => zb y e && S e) = P
    · rw [hfix, if_pos rfl]
      congr 2
      funext e
      apply Bool.eq_iff_iff.mpr
      rw [zq_iff]
      constructor
      · exact hP e
      · rintro ⟨d, hd, hz⟩
        refine zc_ind hz (fun x => P x = true) (hF d hd hz.1) (fun a b ha _ hb hab => ?_)
        rw [← hfix]
        simp only [Bool.and_eq_true]
        exact ⟨(hyb b (hS b hb)).mpr (Or.inr ⟨a, ha, hab⟩), hb⟩
    · rw [if_neg (fun q => hfix (zs_inj hW36 hP36 q)), nI_1]
      refine ih n (j + 1) _ (by omega) (by omega) ?_ (fun i h1 h2 => hPW i (hF i h1 h2)) ?_
      · intro i hi
        simp only [Bool.and_eq_true] at hi
        rcases (hyb i (hS i hi.2)).mp hi.1 with z | ⟨a, ha, hz⟩
        · exact hP i z
        · obtain ⟨d, hd, hc2⟩ := hP a ha
          exact ⟨d, hd, zc_step hc2 hi.2 hz⟩
      · have hx : ∃ e, e < 36 ∧ P e = false ∧ (zb y e && S e) = true := by
          refine Classical.byContradiction fun hno => hfix (funext fun e => ?_)
          cases he : P e with
          | true => exact hPW e he
          | false =>
            apply Bool.eq_false_iff.mpr
            intro q
            exact hno ⟨e, hW36 e q, he, q⟩
        rcases hc with hc | hc
        · obtain ⟨e, -, -, q⟩ := hx
          simp only [Bool.and_eq_true] at q
          rcases (hyb e (hS e q.2)).mp q.1 with z | ⟨a, ha, -⟩
          · rw [hc e] at z; exact nomatch z
          · rw [hc a] at ha; exact nomatch ha
        · have := ct_strict (n := 36) (fun e _ he => hPW e he) hx
          exact Or.inr (by omega)
theorem p_around7 {gw gd gh : Int32} {ga gl gr : Int64} {k w h K : Nat} (H : Lay gw gd gh ga gl gr k w h) (hK : K = 4 ∨ K = 8) {S F : Nat → Bool} (hS : ∀ i, S i = true → i < w * h) : fX1_partAround gd gl gr (zs S) (zs F) (nI K) = some (zs (zq K w S F)) := by
  have h36 : w * h ≤ 36 := z36 H.2.2.2.2.2.2.2.1 H.2.2.2.2.2.2.2.2
  unfold fX1_partAround
  rw [zs_and]
  have h := p_around7_L H hK (F := F) hS 35 sh_fu 0 (fun i => F i && S i) (by omega) (by unfold sh_fu; omega) (fun i hi => by
    simp only [Bool.and_eq_true] at hi
    exact ⟨i, hi.1, zc_refl hi.2⟩) (fun i h1 h2 => by simp [h1, h2]) (by
    rcases Nat.eq_zero_or_pos (fb_ct (fun i => F i && S i) 36) with q | q
    · refine Or.inl (fun i => ?_)
      rcases Nat.lt_or_ge i 36 with hi | hi
      · exact fb_ct_zero.mp q i hi
      · apply Bool.eq_false_iff.mpr
        intro z
        simp only [Bool.and_eq_true] at z
        have := hS i z.2
        omega
    · exact Or.inr (by omega))
  rw [nI_0] at h
  rw [sh_b1_s h]
