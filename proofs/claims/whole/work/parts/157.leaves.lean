/-! leaves and the greatest depth -/
theorem gat_head {k w h : Nat} {sh : Nat → Nat} {P : Nat → Bool} {z : Nat} {tP : Nat → Int64} {tN : Nat → Int32} (G : Gat k w h sh P z tP tN) : ∃ hs : Nat → Nat, (∀ i, i < z → zh k w h sh (hs i) = true ∧ tP i = zs (zC k w h sh (sh (hs i)) (hs i)) ∧ tN i = nI (sh (hs i))) ∧ ∀ q : Nat → Bool, fb_ct (fun i => q (hs i)) z = fb_ct (fun d => (zh k w h sh d && P d) && q d) 36 := by
  obtain ⟨-, hs, b, c⟩ := G
  refine ⟨hs, fun i hi => ⟨?_, b i hi⟩, c⟩
  have h1 := c (fun d => !zh k w h sh d)
  rw [show fb_ct (fun d => (zh k w h sh d && P d) && !zh k w h sh d) 36 = 0 from fb_ct_zero.mpr (fun d _ => by cases zh k w h sh d <;> simp)] at h1
  have h2 := fb_ct_zero.mp h1 i hi
  simpa using h2
noncomputable def zlq (k w h : Nat) (sh : Nat → Nat) (d : Nat) : Bool := decide (zs (fun i => zC k w h sh (sh d) d i && up (w * h) sh (sh d + 1) i) = 0)
theorem p_leaves7_L {p : Nat → Int32} {gw gd gh : Int32} {ga gl gr : Int64} {sL : Nat → Int64} {k w h : Nat} {sh : Nat → Nat} (H : Sys p gw gd gh ga gl gr sL k w h sh) {z : Nat} {tP : Nat → Int64} {tN : Nat → Int32} {hs : Nat → Nat} (hz : z ≤ 36) (hh : ∀ i, i < z → zh k w h sh (hs i) = true ∧ tP i = zs (zC k w h sh (sh (hs i)) (hs i)) ∧ tN i = nI (sh (hs i))) : ∀ (r n i : Nat), i + r = z → r < n → fX6_countLeaves_L8 n (nI (fb_ct (fun j => zlq k w h sh (hs j)) i)) (nI i) sL tP tN (nI z) = some (nI (fb_ct (fun j => zlq k w h sh (hs j)) z)) := by
  intro r
  induction r with
  | zero =>
    intro n i hi hn
    obtain ⟨n, rfl⟩ : ∃ m, n = m + 1 := ⟨n - 1, by omega⟩
    obtain rfl : i = z := by omega
    rw [fX6_countLeaves_L8_s, if_pos (nI_le (Nat.le_refl _) (by omega))]
  | succ r ih =>
    intro n i hi hn
    obtain ⟨n, rfl⟩ : ∃ m, n = m + 1 := ⟨n - 1, by omega⟩
    have hs2 := ih n (i + 1) (by omega) (by omega)
    rw [fb_ct_succ] at hs2
    obtain ⟨a, b, c⟩ := hh i (by omega)
    have h9 := H.sh9 _ (zh_iff.mp a).1
    rw [fX6_countLeaves_L8_s, if_neg (nI_ge (by omega) (by omega)), if_neg (show ¬ (36 : Int32) ≤ nI i from nI_ge (b := 36) (by omega) (by omega)), sh_b1_s (sh_ald_n (by omega) (by omega)), sh_b1_s (sh_ald_n (by omega) (by omega)), b, c]
    simp only [nI_1]
    rw [sh_b1_s (p_atLeast H.2.2 H.sh9 (by omega)), zs_and]
    by_cases q : zs (fun j => zC k w h sh (sh (hs i)) (hs i) j && up (w * h) sh (sh (hs i) + 1) j) = 0
    · rw [if_pos q]
      rw [show zlq k w h sh (hs i) = true from decide_eq_true q] at hs2
      exact hs2
    · rw [if_neg q]
      rw [show zlq k w h sh (hs i) = false from decide_eq_false q] at hs2
      exact hs2
theorem p_leaves7 {p : Nat → Int32} {gw gd gh : Int32} {ga gl gr : Int64} {sL : Nat → Int64} {k w h : Nat} {sh : Nat → Nat} (H : Sys p gw gd gh ga gl gr sL k w h sh) (tP : Nat → Int64) (tN : Nat → Int32) : ∃ tP2 tN2 z2, fX6_countLeaves gw gd gl gr sL tP tN = some (nI (fb_ct (fun d => zh k w h sh d && zlq k w h sh d) 36), tP2, tN2, z2) := by
  obtain ⟨z, tP2, tN2, e, G⟩ := p_gather H tP tN
  have hz := G.1
  obtain ⟨hs, hh, hc⟩ := gat_head G
  have hq := p_leaves7_L H hz hh z sh_fu 0 (by omega) (by unfold sh_fu; omega)
  rw [hc] at hq
  unfold fX6_countLeaves
  rw [sh_b3_s e]
  refine ⟨tP2, tN2, nI z, ?_⟩
  rw [show (0 : Int32) = nI (fb_ct (fun j => zlq k w h sh (hs j)) 0) from rfl]
  rw [show sh_b1 (fX6_countLeaves_L8 sh_fu (nI (fb_ct (fun j => zlq k w h sh (hs j)) 0)) (nI (fb_ct (fun j => zlq k w h sh (hs j)) 0)) sL tP2 tN2 (nI z)) (fun w13 => some (w13, tP2, tN2, nI z)) = sh_b1 (fX6_countLeaves_L8 sh_fu (nI (fb_ct (fun j => zlq k w h sh (hs j)) 0)) (nI 0) sL tP2 tN2 (nI z)) (fun w13 => some (w13, tP2, tN2, nI z)) from rfl, sh_b1_s hq]
  simp only [Bool.and_true]
/-! the reference -/
theorem zpl_cong {c d : Nat → Nat → Bool} {l : Nat} (hcd : ∀ u, u ≤ l → c u = d u) : ∀ t, t ≤ l → zpl c l t = zpl d l t := by
  intro t
  induction t with
  | zero => intro _; rfl
  | succ t ih =>
    intro ht
    by_cases q : c t = c l
    · rw [zpl_s q, zpl_s (by rw [← hcd t (by omega), ← hcd l (Nat.le_refl _)]; exact q)]
      exact ih (by omega)
    · rw [zpl_n q, zpl_n (by rw [← hcd t (by omega), ← hcd l (Nat.le_refl _)]; exact q)]
noncomputable def zpx (k w h : Nat) (sh : Nat → Nat) (x d : Nat) : Bool := @decide (∃ s, zpl (fun t => zC k w h sh t x) (sh x) (sh x) = some s ∧ Nd k w h sh (zC k w h sh s x) s d) (Classical.propDecidable _)
theorem zpx_iff {k w h : Nat} {sh : Nat → Nat} {x d : Nat} : zpx k w h sh x d = true ↔ ∃ s, zpl (fun t => zC k w h sh t x) (sh x) (sh x) = some s ∧ Nd k w h sh (zC k w h sh s x) s d := by unfold zpx; exact @decide_eq_true_iff _ (Classical.propDecidable _)
theorem lf_key {k w h : Nat} {sh : Nat → Nat} {d : Nat} (hn : w * h ≤ 36) (hd : zh k w h sh d = true) : zlq k w h sh d = true ↔ ∀ x, x < w * h → zpx k w h sh x d = false := by
  obtain ⟨hdn, hN⟩ := zh_iff.mp hd
  have hT : ∀ i, (zC k w h sh (sh d) d i && up (w * h) sh (sh d + 1) i) = true → i < 36 := fun i hi => by
    rw [Bool.and_eq_true] at hi
    exact Nat.lt_of_lt_of_le (up_lt hi.2) hn
  unfold zlq
  rw [decide_eq_true_iff, zs_0 hT]
  constructor
  · intro hq x hx
    refine Bool.eq_false_iff.mpr (fun hz => ?_)
    obtain ⟨s, h1, h2⟩ := zpx_iff.mp hz
    obtain ⟨a, -, -⟩ := zpl_some h1
    have hs := h2.lv
    have h3 : zC k w h sh s x x = true := zC_self hx (by omega)
    rw [h2.2, hs] at h3
    have h4 := hq x
    rw [h3, up_mk hx (by omega)] at h4
    exact nomatch h4
  · intro hall i
    refine Bool.eq_false_iff.mpr (fun hz => ?_)
    rw [Bool.and_eq_true] at hz
    obtain ⟨y, hy, -⟩ := ch_ex hN hz.1 (up_le hz.2)
    obtain ⟨-, -, -, a4, a5⟩ := ch_node hN hy
    have h5 := hall y (hN.lt hy.1)
    rw [zpx_iff.mpr ⟨sh d, a4, by rw [a5]; exact hN⟩] at h5
    exact nomatch h5
theorem p_leaves8_L4 {A : Nat → Nat → Int32} {k w h : Nat} {sh : Nat → Nat} (H : Pic (A 2) k w h sh) : ∀ (r n d : Nat), d + r = w * h → r < n → fX8_leaves_L4 n (zI (zh k w h sh) d) (nI d) A = some (zI (zh k w h sh) (w * h)) := by
  have h36 := H.n36
  intro r
  induction r with
  | zero =>
    intro n d hd hn
    obtain ⟨n, rfl⟩ : ∃ m, n = m + 1 := ⟨n - 1, by omega⟩
    obtain rfl : d = w * h := by omega
    rw [fX8_leaves_L4_s, sh_b1_s H.dots, if_pos (nI_le (Nat.le_refl _) (by omega))]
  | succ r ih =>
    intro n d hd hn
    obtain ⟨n, rfl⟩ : ∃ m, n = m + 1 := ⟨n - 1, by omega⟩
    have hs := ih n (d + 1) (by omega) (by omega)
    rw [fX8_leaves_L4_s, sh_b1_s H.dots, if_neg (nI_ge (by omega) (by omega)), sh_b1_s (p_isHead H (by omega)), nI_1, z_or0]
    cases hz : zh k w h sh d with
    | false => rw [if_pos z01_f, zI_f hz]; exact hs
    | true => rw [if_neg z01_t, zI_t hz]; exact hs
noncomputable def zlr (k w h : Nat) (sh : Nat → Nat) (m d : Nat) : Bool := zh k w h sh d && decide (fb_ct (fun x => zpx k w h sh x d) m = 0)
theorem z_andm1 (x : Int64) : x &&& (-1) = x := zb_ext (fun i hi => by rw [zb_and, zb_m1]; simp [hi])
theorem p_leaves8_L44 {A : Nat → Nat → Int32} {k w h : Nat} {sh : Nat → Nat} (H : Pic (A 2) k w h sh) : ∀ (r n m : Nat), m + r = w * h → r < n → fX8_leaves_L44 n (zs (zlr k w h sh m)) (nI m) A = some (zs (zlr k w h sh (w * h))) := by
  have h36 := H.n36
  intro r
  induction r with
  | zero =>
    intro n m hd hn
    obtain ⟨n, rfl⟩ : ∃ m, n = m + 1 := ⟨n - 1, by omega⟩
    obtain rfl : m = w * h := by omega
    rw [fX8_leaves_L44_s, sh_b1_s H.dots, if_pos (nI_le (Nat.le_refl _) (by omega))]
  | succ r ih =>
    intro n m hd hn
    obtain ⟨n, rfl⟩ : ∃ m, n = m + 1 := ⟨n - 1, by omega⟩
    have hs := ih n (m + 1) (by omega) (by omega)
    have hm : m < w * h := by omega
    obtain ⟨e, he⟩ := nd_dot (k := k) (sh := sh) hm
    have hch : ∀ t, t ≤ sh m → (fun t => zC k w h sh t e) t = (fun t => zC k w h sh t m) t := fun t ht => zC_chain he.1.2.1 ht
    rw [fX8_leaves_L44_s, sh_b1_s H.dots, if_neg (nI_ge (by omega) (by omega)), show fX8_nodeOf (A 2) (nI m) = some (zs (zC k w h sh (sh m) m)) from p_nodeOf H hm, sh_b1_s rfl, sh_b1_s (p_parent8 H he), nI_1, z_andm1]
    have hN36 : ∀ t i, zC k w h sh t m i = true → i < 36 := fun t i hi => Nat.lt_of_lt_of_le (zC_lt hi) h36
    unfold zpr
    rw [zpl_cong hch (sh m) (Nat.le_refl _)]
    cases hz : zpl (fun t => zC k w h sh t m) (sh m) (sh m) with
    | none =>
      dsimp only
      rw [if_pos (show zs (zC k w h sh (sh m) e) = zs (zC k w h sh (sh m) m) by rw [show zC k w h sh (sh m) e = zC k w h sh (sh m) m from hch (sh m) (Nat.le_refl _)])]
      rw [show zlr k w h sh m = zlr k w h sh (m + 1) from funext fun d => by
        unfold zlr
        rw [fb_ct_succ, show zpx k w h sh m d = false from Bool.eq_false_iff.mpr (fun q => by obtain ⟨s, h1, -⟩ := zpx_iff.mp q; rw [hz] at h1; exact nomatch h1)]
        rfl]
      exact hs
    | some s =>
      dsimp only
      obtain ⟨s1, s2, -⟩ := zpl_some hz
      obtain ⟨e2, n1, n2, n3⟩ := nd_parent he (by rw [zpl_cong hch (sh m) (Nat.le_refl _)]; exact hz)
      have hce : zC k w h sh s e = zC k w h sh s m := hch s (by omega)
      rw [hce] at n1 n2
      have h2n := n1.1.1
      rw [if_neg (show ¬ zs (zC k w h sh s e) = zs (zC k w h sh (sh m) m) from fun z => n2 (zs_inj (hN36 s) (hN36 _) (by rw [← hce]; exact z))), hce, sh_b1_s (p_head8 H (fun i hi => zC_lt hi) n1.1), zs_bit (by omega), zs_not]
      rw [show (fun i => zlr k w h sh m i && !decide (i = e2)) = zlr k w h sh (m + 1) from funext fun d => by
        unfold zlr
        rw [fb_ct_succ, show zpx k w h sh m d = decide (d = e2) from by
          apply Bool.eq_iff_iff.mpr
          rw [zpx_iff, decide_eq_true_iff]
          constructor
          · rintro ⟨s', h1, h2⟩
            rw [hz] at h1
            cases h1
            exact (h2.uniq n1).2
          · rintro rfl
            exact ⟨s, hz, n1⟩]
        generalize fb_ct (fun x => zpx k w h sh x d) m = c
        cases zh k w h sh d <;> by_cases q : d = e2 <;> simp [q]]
      exact hs
theorem p_leaves8 {A : Nat → Nat → Int32} {k w h : Nat} {sh : Nat → Nat} (H : Pic (A 2) k w h sh) : fX8_leaves A = some (nI (fb_ct (fun d => zh k w h sh d && zlq k w h sh d) 36)) := by
  unfold fX8_leaves
  have h36 := H.n36
  have h1 := p_leaves8_L4 H (w * h) sh_fu 0 (by omega) (by unfold sh_fu; omega)
  rw [zI_s h36 (fun i hi => (zh_iff.mp hi).1), show zI (zh k w h sh) 0 = 0 from rfl, nI_0] at h1
  have h2 := p_leaves8_L44 H (w * h) sh_fu 0 (by omega) (by unfold sh_fu; omega)
  rw [show zlr k w h sh 0 = zh k w h sh from funext fun d => by unfold zlr; simp [fb_ct], nI_0] at h2
  rw [sh_b1_s h1, sh_b1_s h2, sh_b1_s (p_many _), zs_n]
  congr 2
  apply fb_ct_cong
  intro d hd
  unfold zlr
  cases hz : zh k w h sh d with
  | false => rfl
  | true =>
    apply Bool.eq_iff_iff.mpr
    rw [Bool.true_and, Bool.true_and, decide_eq_true_iff, lf_key h36 hz, fb_ct_zero]
/-! the greatest depth -/
def zgm (f : Nat → Nat) : Nat → Nat
  | 0 => 0
  | n + 1 => max (zgm f n) (f n)
theorem zgm_ge {f : Nat → Nat} : ∀ {n i : Nat}, i < n → f i ≤ zgm f n := by
  intro n
  induction n with
  | zero => intro i hi; omega
  | succ n ih =>
    intro i hi
    rcases Nat.lt_or_ge i n with q | q
    · exact Nat.le_trans (ih q) (Nat.le_max_left _ _)
    · obtain rfl : i = n := by omega
      exact Nat.le_max_right _ _
theorem zgm_le {f : Nat → Nat} {b : Nat} : ∀ {n : Nat}, (∀ i, i < n → f i ≤ b) → zgm f n ≤ b := by
  intro n
  induction n with
  | zero => intro _; exact Nat.zero_le _
  | succ n ih => intro hb; exact Nat.max_le.mpr ⟨ih (fun i hi => hb i (by omega)), hb n (by omega)⟩
theorem sh_max_n {a b : Nat} (ha : a < 2 ^ 31) (hb : b < 2 ^ 31) : sh_max (nI a) (nI b) = nI (max a b) := by
  unfold sh_max
  rcases Nat.lt_or_ge a b with q | q
  · rw [if_pos (nI_lt q hb), Nat.max_eq_right (by omega)]
  · rw [if_neg (nI_nlt q ha), Nat.max_eq_left q]
noncomputable def zdp (k w h : Nat) (sh : Nat → Nat) (d : Nat) : Nat := zdc (fun t => zC k w h sh t d) (sh d)
theorem p_deep7_L {p : Nat → Int32} {gw gd gh : Int32} {ga gl gr : Int64} {sL : Nat → Int64} {k w h : Nat} {sh : Nat → Nat} (H : Sys p gw gd gh ga gl gr sL k w h sh) {z : Nat} {tP : Nat → Int64} {tN : Nat → Int32} {hs : Nat → Nat} (hz : z ≤ 36) (hh : ∀ i, i < z → zh k w h sh (hs i) = true ∧ tP i = zs (zC k w h sh (sh (hs i)) (hs i)) ∧ tN i = nI (sh (hs i))) : ∀ (r n i : Nat), i + r = z → r < n → fX6_greatestDepth_L8 n (nI (zgm (fun j => zdp k w h sh (hs j)) i)) (nI i) gw gd gl gr sL tP tN (nI z) = some (nI (zgm (fun j => zdp k w h sh (hs j)) z)) := by
  intro r
  induction r with
  | zero =>
    intro n i hi hn
    obtain ⟨n, rfl⟩ : ∃ m, n = m + 1 := ⟨n - 1, by omega⟩
    obtain rfl : i = z := by omega
    rw [fX6_greatestDepth_L8_s, if_pos (nI_le (Nat.le_refl _) (by omega))]
  | succ r ih =>
    intro n i hi hn
    obtain ⟨n, rfl⟩ : ∃ m, n = m + 1 := ⟨n - 1, by omega⟩
    have hs2 := ih n (i + 1) (by omega) (by omega)
    obtain ⟨a, b, c⟩ := hh i (by omega)
    have hN := (zh_iff.mp a).2
    have hb9 : ∀ j, j < z → zdp k w h sh (hs j) ≤ 9 := fun j hj => by
      have h1 := zdc_le (fun t => zC k w h sh t (hs j)) (sh (hs j))
      have h2 := H.sh9 _ (zh_iff.mp (hh j hj).1).1
      exact Nat.le_trans h1 h2
    have hm9 : zgm (fun j => zdp k w h sh (hs j)) i ≤ 9 := zgm_le (fun j hj => hb9 j (by omega))
    have hi9 := hb9 i (by omega)
    rw [fX6_greatestDepth_L8_s, if_neg (nI_ge (by omega) (by omega)), if_neg (show ¬ (36 : Int32) ≤ nI i from nI_ge (b := 36) (by omega) (by omega)), sh_b1_s (sh_ald_n (by omega) (by omega)), sh_b1_s (sh_ald_n (by omega) (by omega)), b, c, sh_b1_s (p_depth7 H hN), nI_1]
    rw [show zdc (fun t => zC k w h sh t (hs i)) (sh (hs i)) = zdp k w h sh (hs i) from rfl, sh_max_n (by omega) (by omega)]
    exact hs2
theorem zdp_head {k w h : Nat} {sh : Nat → Nat} {d e : Nat} (he : Nd k w h sh (zC k w h sh (sh d) d) (sh d) e) : zdc (fun t => zC k w h sh t e) (sh d) = zdp k w h sh d := zdc_cong (fun _ hu => zC_chain he.1.2.1 hu)
theorem p_deep8_L {A : Nat → Nat → Int32} {k w h : Nat} {sh : Nat → Nat} (H : Pic (A 2) k w h sh) : ∀ (r n d : Nat), d + r = w * h → r < n → fX8_deepest_L4 n (nI (zgm (zdp k w h sh) d)) (nI d) A = some (nI (zgm (zdp k w h sh) (w * h))) := by
  have h36 := H.n36
  have hb9 : ∀ j, j < w * h → zdp k w h sh j ≤ 9 := fun j hj => Nat.le_trans (zdc_le (fun t => zC k w h sh t j) (sh j)) (H.sh9 hj)
  intro r
  induction r with
  | zero =>
    intro n d hd hn
    obtain ⟨n, rfl⟩ : ∃ m, n = m + 1 := ⟨n - 1, by omega⟩
    obtain rfl : d = w * h := by omega
    rw [fX8_deepest_L4_s, sh_b1_s H.dots, if_pos (nI_le (Nat.le_refl _) (by omega))]
  | succ r ih =>
    intro n d hd hn
    obtain ⟨n, rfl⟩ : ∃ m, n = m + 1 := ⟨n - 1, by omega⟩
    have hs := ih n (d + 1) (by omega) (by omega)
    have hd2 : d < w * h := by omega
    obtain ⟨e, he⟩ := nd_dot (k := k) (sh := sh) hd2
    have hm9 : zgm (zdp k w h sh) d ≤ 9 := zgm_le (fun j hj => hb9 j (by omega))
    have hi9 := hb9 d hd2
    rw [fX8_deepest_L4_s, sh_b1_s H.dots, if_neg (nI_ge (by omega) (by omega)), show fX8_nodeOf (A 2) (nI d) = some (zs (zC k w h sh (sh d) d)) from p_nodeOf H hd2, sh_b1_s rfl, sh_b1_s (p_depth8 H he), zdp_head he, nI_1]
    rw [show zgm (zdp k w h sh) (d + 1) = max (zgm (zdp k w h sh) d) (zdp k w h sh d) from rfl] at hs
    rcases Nat.lt_or_ge (zgm (zdp k w h sh) d) (zdp k w h sh d) with q | q
    · rw [if_neg (nI_ge q (by omega))]
      rw [Nat.max_eq_right (by omega)] at hs
      exact hs
    · rw [if_pos (nI_le q (by omega))]
      rw [Nat.max_eq_left q] at hs
      exact hs
theorem p_deep8 {A : Nat → Nat → Int32} {k w h : Nat} {sh : Nat → Nat} (H : Pic (A 2) k w h sh) : fX8_deepest A = some (nI (zgm (zdp k w h sh) (w * h))) := by
  unfold fX8_deepest
  have h36 := H.n36
  have hq := p_deep8_L H (w * h) sh_fu 0 (by omega) (by unfold sh_fu; omega)
  rw [nI_0, show nI (zgm (zdp k w h sh) 0) = 0 from rfl] at hq
  rw [sh_b1_s hq]
theorem p_deep7 {p : Nat → Int32} {gw gd gh : Int32} {ga gl gr : Int64} {sL : Nat → Int64} {k w h : Nat} {sh : Nat → Nat} (H : Sys p gw gd gh ga gl gr sL k w h sh) (tP : Nat → Int64) (tN : Nat → Int32) : ∃ tP2 tN2 z2, fX6_greatestDepth gw gd gl gr sL tP tN = some (nI (zgm (zdp k w h sh) (w * h)), tP2, tN2, z2) := by
  obtain ⟨z, tP2, tN2, e, G⟩ := p_gather H tP tN
  have hz := G.1
  have h36 := H.1.n36
  obtain ⟨hs, hh, hc⟩ := gat_head G
  have hq := p_deep7_L H hz hh z sh_fu 0 (by omega) (by unfold sh_fu; omega)
  rw [nI_0, show nI (zgm (fun j => zdp k w h sh (hs j)) 0) = 0 from rfl] at hq
  unfold fX6_greatestDepth
  rw [sh_b3_s e, sh_b1_s hq]
  refine ⟨tP2, tN2, nI z, ?_⟩
  have : zgm (fun j => zdp k w h sh (hs j)) z = zgm (zdp k w h sh) (w * h) := by
    apply Nat.le_antisymm
    · exact zgm_le (fun j hj => zgm_ge (zh_iff.mp (hh j hj).1).1)
    · refine zgm_le (fun d hd => ?_)
      obtain ⟨e, he⟩ := nd_dot (k := k) (sh := sh) hd
      have hse := he.lv
      have hze : zh k w h sh e = true := zh_iff.mpr ⟨he.1.1, by rw [← hse]; rw [← zC_eq he.1.2.1]; exact he⟩
      have h1 := hc (fun x => decide (x = e))
      have h2 : 0 < fb_ct (fun d => (zh k w h sh d && true) && decide (d = e)) 36 := fb_ct_pos.mpr ⟨e, Nat.lt_of_lt_of_le he.1.1 h36, by simp [hze]⟩
      rw [← h1] at h2
      obtain ⟨i, hi, hie⟩ := fb_ct_pos.mp h2
      have hie : hs i = e := of_decide_eq_true hie
      have h3 : zdp k w h sh d = zdp k w h sh (hs i) := by
        rw [hie, ← zdp_head he, hse]; rfl
      rw [h3]
      exact zgm_ge (f := fun j => zdp k w h sh (hs j)) hi
  rw [this]
theorem p_nodes7 {p : Nat → Int32} {gw gd gh : Int32} {ga gl gr : Int64} {sL : Nat → Int64} {k w h : Nat} {sh : Nat → Nat} (H : Sys p gw gd gh ga gl gr sL k w h sh) (tP : Nat → Int64) (tN : Nat → Int32) : ∃ tP2 tN2 z2, fX6_countNodes gw gd gl gr sL tP tN = some (nI (fb_ct (zh k w h sh) 36), tP2, tN2, z2) := by
  obtain ⟨z, tP2, tN2, e, G⟩ := p_gather H tP tN
  unfold fX6_countNodes
  rw [sh_b3_s e]
  exact ⟨tP2, tN2, nI z, by rw [G.size]⟩
