/-! depths by the reference; the brightest; rise; light -/
theorem zdc_const {c : Nat → Nat → Bool} {s : Nat} (h : ∀ u, u < s → c u = c s) : ∀ t, t ≤ s → zdc c t = 0 := by
  intro t
  induction t with
  | zero => intro _; rfl
  | succ t ih =>
    intro ht
    have e : c t = c (t + 1) := by
      rw [h t (by omega)]
      rcases Nat.lt_or_ge (t + 1) s with q | q
      · exact (h (t + 1) q).symm
      · rw [show t + 1 = s by omega]
    rw [zdc_s e]
    exact ih (by omega)
theorem zdc_cong {c d : Nat → Nat → Bool} : ∀ {s : Nat}, (∀ u, u ≤ s → c u = d u) → zdc c s = zdc d s := by
  intro s
  induction s with
  | zero => intro _; rfl
  | succ s ih =>
    intro h
    have h1 := ih (fun u hu => h u (by omega))
    have h2 := h s (by omega)
    have h3 := h (s + 1) (Nat.le_refl _)
    by_cases q : c s = c (s + 1)
    · rw [zdc_s q, zdc_s (by rw [← h2, ← h3]; exact q), h1]
    · rw [zdc_n q, zdc_n (by rw [← h2, ← h3]; exact q), h1]
theorem zdc_jump {c : Nat → Nat → Bool} {u s : Nat} (hus : u < s) (hne : c u ≠ c s) (hb : ∀ t, u < t → t < s → c t = c s) : zdc c s = zdc c u + 1 := by
  have key : ∀ t, u < t → t ≤ s → zdc c t = zdc c u + 1 := by
    intro t
    induction t with
    | zero => intro h; omega
    | succ t ih =>
      intro h1 h2
      have ct : c (t + 1) = c s := by
        rcases Nat.lt_or_ge (t + 1) s with q | q
        · exact hb _ h1 q
        · rw [show t + 1 = s by omega]
      rcases Nat.lt_or_ge u t with q | q
      · rw [zdc_s (by rw [ct]; exact hb t q (by omega))]
        exact ih q (by omega)
      · obtain rfl : u = t := by omega
        rw [zdc_n (by rw [ct]; exact hne)]
  exact key s hus (Nat.le_refl _)
theorem zC_chain {k w h : Nat} {sh : Nat → Nat} {u q r t : Nat} (hr : zC k w h sh u q r = true) (ht : t ≤ u) : zC k w h sh t r = zC k w h sh t q := (zC_eq (zC_mono ht hr)).symm
theorem p_depth8_L {p : Nat → Int32} {k w h : Nat} {sh : Nat → Nat} (H : Pic p k w h sh) : ∀ (b : Nat) (s : Nat) (Q : Nat → Bool) (q n c : Nat), s ≤ b → Nd k w h sh Q s q → s < n → fX8_depth_L13 n (nI c) (zs Q) (zs (zpr (fun t => zC k w h sh t q) s s)) p = some (nI (c + zdc (fun t => zC k w h sh t q) s)) := by
  have h36 := H.n36
  intro b
  induction b with
  | zero =>
    intro s Q q n c hs hQ hn
    obtain rfl : s = 0 := by omega
    obtain ⟨n, rfl⟩ : ∃ m, n = m + 1 := ⟨n - 1, by omega⟩
    rw [fX8_depth_L13_s, show zpr (fun t => zC k w h sh t q) 0 0 = Q from hQ.2.symm, if_pos rfl]
    rfl
  | succ b ih =>
    intro s Q q n c hs hQ hn
    obtain ⟨n, rfl⟩ : ∃ m, n = m + 1 := ⟨n - 1, by omega⟩
    rw [fX8_depth_L13_s]
    cases hz : zpl (fun t => zC k w h sh t q) s s with
    | none =>
      rw [show zpr (fun t => zC k w h sh t q) s s = Q from by unfold zpr; rw [hz]; exact hQ.2.symm, if_pos rfl, zdc_const (c := fun t => zC k w h sh t q) (zpl_none hz) s (Nat.le_refl _)]
      rfl
    | some u =>
      obtain ⟨r, hR, hne, hus⟩ := nd_parent hQ hz
      obtain ⟨-, a2, a3⟩ := zpl_some hz
      have hR36 : ∀ i, zC k w h sh u q i = true → i < 36 := fun i hi => Nat.lt_of_lt_of_le (zC_lt hi) h36
      have hQ36 : ∀ i, Q i = true → i < 36 := fun i hi => Nat.lt_of_lt_of_le (hQ.lt hi) h36
      rw [show zpr (fun t => zC k w h sh t q) s s = zC k w h sh u q from by unfold zpr; rw [hz], if_neg (fun z => hne (zs_inj hR36 hQ36 z)), sh_b1_s (p_parent8 H hR), nI_1, ih u _ r n (c + 1) (by omega) hR (by omega)]
      rw [zdc_cong (c := fun t => zC k w h sh t r) (d := fun t => zC k w h sh t q) (s := u) (fun t ht => zC_chain hR.1.2.1 ht), zdc_jump hus a2 a3]
      congr 2
      omega
theorem p_depth8 {p : Nat → Int32} {k w h : Nat} {sh : Nat → Nat} (H : Pic p k w h sh) {S : Nat → Bool} {l e : Nat} (hS : Nd k w h sh S l e) : fX8_depth p (zs S) = some (nI (zdc (fun t => zC k w h sh t e) l)) := by
  unfold fX8_depth
  have h9 := H.sh9 hS.1.1
  have hl := hS.lv
  have hq := p_depth8_L H l l S e sh_fu 0 (Nat.le_refl _) hS (by unfold sh_fu; omega)
  rw [nI_0, Nat.zero_add] at hq
  rw [sh_b1_s (p_parent8 H hS), sh_b1_s hq]
/-! the brightest of a set -/
def IsMx (sh : Nat → Nat) (S : Nat → Bool) (b : Nat) : Prop := (∃ i, S i = true ∧ sh i = b) ∧ ∀ i, S i = true → sh i ≤ b
theorem ex_mx {n : Nat} {sh : Nat → Nat} {S : Nat → Bool} (hS : ∀ i, S i = true → i < n) (h9 : ∀ d, d < n → sh d ≤ 9) (hx : ∃ i, S i = true) : ∃ b, b ≤ 9 ∧ IsMx sh S b := by
  have key : ∀ m, (∀ i, S i = true → sh i ≤ m) → ∃ b, b ≤ m ∧ IsMx sh S b := by
    intro m
    induction m with
    | zero =>
      intro h
      obtain ⟨i, hi⟩ := hx
      exact ⟨0, Nat.le_refl _, ⟨i, hi, by have := h i hi; omega⟩, h⟩
    | succ m ih =>
      intro h
      by_cases q : ∃ i, S i = true ∧ sh i = m + 1
      · exact ⟨m + 1, Nat.le_refl _, q, h⟩
      · obtain ⟨b, hb, hm⟩ := ih (fun i hi => by
          have h1 := h i hi
          have h2 : sh i ≠ m + 1 := fun z => q ⟨i, hi, z⟩
          omega)
        exact ⟨b, by omega, hm⟩
  exact key 9 (fun i hi => h9 i (hS i hi))
theorem IsMx.unique {sh : Nat → Nat} {S : Nat → Bool} {b c : Nat} (h1 : IsMx sh S b) (h2 : IsMx sh S c) : b = c := by
  obtain ⟨⟨i, hi, rfl⟩, hb⟩ := h1
  obtain ⟨⟨j, hj, rfl⟩, hc⟩ := h2
  exact Nat.le_antisymm (hc i hi) (hb j hj)
def zbr (sh : Nat → Nat) (S : Nat → Bool) : Nat → Int32
  | 0 => -9
  | n + 1 => if S n = true ∧ ¬ nI (sh n) ≤ zbr sh S n then nI (sh n) else zbr sh S n
theorem z_n9 (b : Nat) (hb : b < 2 ^ 31) : ¬ nI b ≤ (-9) := by
  intro q
  have h1 := nI_pos' hb
  have := Int32.le_trans h1 q
  exact absurd this (by decide)
theorem zbr_c {sh : Nat → Nat} {S : Nat → Bool} {N : Nat} (h9 : ∀ d, d < N → sh d ≤ 9) : ∀ n, n ≤ N → (zbr sh S n = -9 ∧ ∀ i, i < n → S i = false) ∨ ∃ b, b ≤ 9 ∧ zbr sh S n = nI b ∧ (∃ i, i < n ∧ S i = true ∧ sh i = b) ∧ ∀ i, i < n → S i = true → sh i ≤ b := by
  intro n
  induction n with
  | zero => exact fun _ => Or.inl ⟨rfl, fun i hi => absurd hi (Nat.not_lt_zero i)⟩
  | succ n ih =>
    intro hn
    have h9n := h9 n (by omega)
    cases hS : S n with
    | false =>
      have e : zbr sh S (n + 1) = zbr sh S n := by simp [zbr, hS]
      rw [e]
      rcases ih (by omega) with ⟨a, b⟩ | ⟨b, h0, a, ⟨i, hi, h1, h2⟩, h3⟩
      · refine Or.inl ⟨a, fun i hi => ?_⟩
        rcases Nat.lt_or_ge i n with q | q
        · exact b i q
        · rw [show i = n by omega]; exact hS
      · refine Or.inr ⟨b, h0, a, ⟨i, by omega, h1, h2⟩, fun j hj hs => ?_⟩
        rcases Nat.lt_or_ge j n with q | q
        · exact h3 j q hs
        · rw [show j = n by omega, hS] at hs; exact nomatch hs
    | true =>
      rcases ih (by omega) with ⟨a, b⟩ | ⟨b, h0, a, ⟨i, hi, h1, h2⟩, h3⟩
      · have e : zbr sh S (n + 1) = nI (sh n) := by
          show (if S n = true ∧ ¬ nI (sh n) ≤ zbr sh S n then nI (sh n) else zbr sh S n) = _
          rw [a, if_pos ⟨hS, z_n9 _ (by omega)⟩]
        rw [e]
        refine Or.inr ⟨sh n, h9n, rfl, ⟨n, by omega, hS, rfl⟩, fun j hj hs => ?_⟩
        rcases Nat.lt_or_ge j n with q | q
        · rw [b j q] at hs; exact nomatch hs
        · rw [show j = n by omega]; exact Nat.le_refl _
      · by_cases hle : sh n ≤ b
        · have e : zbr sh S (n + 1) = nI b := by
            show (if S n = true ∧ ¬ nI (sh n) ≤ zbr sh S n then nI (sh n) else zbr sh S n) = _
            rw [a, if_neg (fun z => z.2 (nI_le hle (by omega)))]
          rw [e]
          refine Or.inr ⟨b, h0, rfl, ⟨i, by omega, h1, h2⟩, fun j hj hs => ?_⟩
          rcases Nat.lt_or_ge j n with q | q
          · exact h3 j q hs
          · rw [show j = n by omega]; exact hle
        · have e : zbr sh S (n + 1) = nI (sh n) := by
            show (if S n = true ∧ ¬ nI (sh n) ≤ zbr sh S n then nI (sh n) else zbr sh S n) = _
            rw [a, if_pos ⟨hS, nI_ge (by omega) (by omega)⟩]
          rw [e]
          refine Or.inr ⟨sh n, h9n, rfl, ⟨n, by omega, hS, rfl⟩, fun j hj hs => ?_⟩
          rcases Nat.lt_or_ge j n with q | q
          · have := h3 j q hs; omega
          · rw [show j = n by omega]; exact Nat.le_refl _
theorem p_brt_L {p : Nat → Int32} {k w h : Nat} {sh : Nat → Nat} (H : Pic p k w h sh) {S : Nat → Bool} (hSn : ∀ i, S i = true → i < w * h) : ∀ (r n d : Nat), d + r = w * h → r < n → fX8_brightest_L6 n (zs S) (zbr sh S d) (nI d) p = some (zbr sh S (w * h)) := by
  have h36 := H.n36
  have hb : ∀ i, zb (zs S) i = S i := zb_zs' (fun i hi => Nat.lt_of_lt_of_le (hSn i hi) h36)
  intro r
  induction r with
  | zero =>
    intro n d hd hn
    obtain ⟨n, rfl⟩ : ∃ m, n = m + 1 := ⟨n - 1, by omega⟩
    obtain rfl : d = w * h := by omega
    rw [fX8_brightest_L6_s, sh_b1_s H.dots, if_pos (nI_le (Nat.le_refl _) (by omega))]
  | succ r ih =>
    intro n d hd hn
    obtain ⟨n, rfl⟩ : ∃ m, n = m + 1 := ⟨n - 1, by omega⟩
    have hs := ih n (d + 1) (by omega) (by omega)
    rw [fX8_brightest_L6_s, sh_b1_s H.dots, if_neg (nI_ge (by omega) (by omega)), sh_b1_s (p_has _ (by omega)), hb, nI_1]
    cases hS : S d with
    | false =>
      rw [if_pos z01_f]
      rw [show zbr sh S (d + 1) = zbr sh S d from by simp [zbr, hS]] at hs
      exact hs
    | true =>
      rw [if_neg z01_t, sh_b1_s (H.shade (by omega))]
      by_cases q : nI (sh d) ≤ zbr sh S d
      · rw [if_pos q]
        rw [show zbr sh S (d + 1) = zbr sh S d from by simp [zbr, hS, q]] at hs
        exact hs
      · rw [if_neg q, sh_b1_s (H.shade (by omega))]
        rw [show zbr sh S (d + 1) = nI (sh d) from by simp [zbr, hS, q]] at hs
        exact hs
theorem p_brt8 {p : Nat → Int32} {k w h : Nat} {sh : Nat → Nat} (H : Pic p k w h sh) {S : Nat → Bool} (hSn : ∀ i, S i = true → i < w * h) {b : Nat} (hb : IsMx sh S b) : fX8_brightest p (zs S) = some (nI b) := by
  unfold fX8_brightest
  have h36 := H.n36
  have hq := p_brt_L H hSn (w * h) sh_fu 0 (by omega) (by unfold sh_fu; omega)
  rw [nI_0, show zbr sh S 0 = -9 from rfl] at hq
  rw [sh_b1_s hq]
  obtain ⟨⟨i, hi, rfl⟩, hmax⟩ := hb
  rcases zbr_c (sh := sh) (S := S) (fun d hd => H.sh9 hd) (w * h) (Nat.le_refl _) with ⟨-, a⟩ | ⟨c, -, a, ⟨j, hj, h1, rfl⟩, h3⟩
  · rw [a i (hSn i hi)] at hi; exact nomatch hi
  · rw [a, Nat.le_antisymm (hmax j h1) (h3 i (hSn i hi) hi)]
theorem p_brt7_L {p : Nat → Int32} {gw gd gh : Int32} {ga gl gr : Int64} {sL : Nat → Int64} {k w h : Nat} {sh : Nat → Nat} (H : Sys p gw gd gh ga gl gr sL k w h sh) {S : Nat → Bool} (hSn : ∀ i, S i = true → i < w * h) {b : Nat} (hb : IsMx sh S b) : ∀ (t n : Nat), b ≤ t → t ≤ 9 → t < n → fX2_brightest_L3 n (zs S) (nI t) gw gd gh ga gl gr sL = some (if b = 0 then .inr () else .inl (nI b)) := by
  have h36 := H.1.n36
  intro t
  induction t with
  | zero =>
    intro n h1 _ hn
    obtain ⟨n, rfl⟩ : ∃ m, n = m + 1 := ⟨n - 1, by omega⟩
    rw [fX2_brightest_L3_s, if_pos (show nI 0 ≤ 0 from by decide), if_pos (by omega)]
  | succ t ih =>
    intro n h1 h2 hn
    obtain ⟨n, rfl⟩ : ∃ m, n = m + 1 := ⟨n - 1, by omega⟩
    rw [fX2_brightest_L3_s, if_neg (nI_nle (by omega) (by omega)), sh_b1_s (p_atLeast H.2.2 H.sh9 (by omega)), zs_and]
    have h36' : ∀ i, (up (w * h) sh (t + 1) i && S i) = true → i < 36 := fun i hi => by rw [Bool.and_eq_true] at hi; exact Nat.lt_of_lt_of_le (up_lt hi.1) h36
    rcases Nat.lt_or_ge b (t + 1) with q | q
    · rw [if_pos ((zs_0 h36').mpr (fun i => Bool.eq_false_iff.mpr (fun z => by
        rw [Bool.and_eq_true] at z
        have := up_le z.1
        have := hb.2 i z.2
        omega))), pk_m1]
      exact ih n (by omega) (by omega) (by omega)
    · obtain rfl : b = t + 1 := by omega
      obtain ⟨⟨i, hi, hsi⟩, -⟩ := hb
      rw [if_neg (fun z => by
        have := (zs_0 h36').mp z i
        rw [hi, up_mk (hSn i hi) (by omega)] at this
        exact nomatch this), if_neg (by omega)]
theorem p_brt7 {p : Nat → Int32} {gw gd gh : Int32} {ga gl gr : Int64} {sL : Nat → Int64} {k w h : Nat} {sh : Nat → Nat} (H : Sys p gw gd gh ga gl gr sL k w h sh) {S : Nat → Bool} (hSn : ∀ i, S i = true → i < w * h) {b : Nat} (h9 : b ≤ 9) (hb : IsMx sh S b) : fX2_brightest gw gd gh ga gl gr sL (zs S) = some (nI b) := by
  unfold fX2_brightest
  have hq := p_brt7_L H hSn hb 9 sh_fu h9 (by omega) (by unfold sh_fu; omega)
  by_cases h0 : b = 0
  · rw [if_pos h0] at hq
    rw [show (9 : Int32) = nI 9 from rfl, sh_bs_r hq, h0]; rfl
  · rw [if_neg h0] at hq
    rw [show (9 : Int32) = nI 9 from rfl, sh_bs_l hq]
