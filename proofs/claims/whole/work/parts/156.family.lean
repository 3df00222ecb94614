/-! parents and children -/
theorem ct_inj {A B : Nat → Bool} {n : Nat} (f : Nat → Nat) (hf : ∀ x, x < n → A x = true → f x < n ∧ B (f x) = true) (inj : ∀ x y, x < n → y < n → A x = true → A y = true → f x = f y → x = y) : fb_ct A n ≤ fb_ct B n := by
  have hk : ∀ i, ∃ x, i < fb_ct A n → x < n ∧ A x = true ∧ fb_ct A x = i := fun i => by
    by_cases hi : i < fb_ct A n
    · obtain ⟨x, h1, h2, h3⟩ := fb_ct_kth hi
      exact ⟨x, fun _ => ⟨h1, h2, h3⟩⟩
    · exact ⟨0, fun q => absurd q hi⟩
  have hx : ∃ g : Nat → Nat, ∀ i, i < fb_ct A n → g i < n ∧ A (g i) = true ∧ fb_ct A (g i) = i := ⟨fun i => Classical.choose (hk i), fun i hi => Classical.choose_spec (hk i) hi⟩
  obtain ⟨g, hg⟩ := hx
  refine fb_holes (fb_ct B n) (fb_ct A n) (fun i => fb_ct B (f (g i))) (fun i hi => ?_) (fun i j hij hj q => ?_)
  · obtain ⟨a, b, -⟩ := hg i hi
    obtain ⟨c, d⟩ := hf _ a b
    have h1 := fb_ct_mono B (show f (g i) + 1 ≤ n by omega)
    rw [fb_ct_succ, d, if_pos rfl] at h1
    show fb_ct B (f (g i)) < fb_ct B n
    omega
  · obtain ⟨a1, b1, c1⟩ := hg i (by omega)
    obtain ⟨a2, b2, c2⟩ := hg j hj
    have e1 := fb_ct_kth_one (hf _ a1 b1).2 (hf _ a2 b2).2 q
    have e2 := inj _ _ a1 a2 b1 b2 e1
    rw [e2, c2] at c1
    omega
theorem zpl_at {c : Nat → Nat → Bool} {l s : Nat} : ∀ {t : Nat}, s < t → c s ≠ c l → (∀ u, s < u → u < t → c u = c l) → zpl c l t = some s := by
  intro t
  induction t with
  | zero => intro h; omega
  | succ t ih =>
    intro hs hne hb
    rcases Nat.lt_or_ge s t with q | q
    · rw [zpl_s (hb t q (by omega))]
      exact ih q hne (fun u h1 h2 => hb u h1 (by omega))
    · obtain rfl : s = t := by omega
      exact zpl_n hne
theorem zC_flat {k w h : Nat} {sh : Nat → Nat} {t u e : Nat} (he : e < w * h) (htu : t ≤ u) (hu : u ≤ sh e) (hall : ∀ i, zC k w h sh t e i = true → u ≤ sh i) : zC k w h sh t e = zC k w h sh u e := by
  funext i
  apply Bool.eq_iff_iff.mpr
  constructor
  · intro hi
    refine zp_closed (X := zC k w h sh u e) (S := up (w * h) sh t) (zC_self he hu) (fun a b ha _ hb hab => ?_) hi
    have h1 : zC k w h sh t e b = true := zp_iff.mpr (zc_step (zp_iff.mp (zC_mono htu ha)) hb hab)
    exact zp_iff.mpr (zc_step (zp_iff.mp ha) (up_mk (zC_lt h1) (hall b h1)) hab)
  · exact fun hi => zC_mono htu hi
/-- between two equal ones all are equal -/
theorem zC_sq {k w h : Nat} {sh : Nat → Nat} {t u v e : Nat} (htu : t ≤ u) (huv : u ≤ v) (hq : zC k w h sh t e = zC k w h sh v e) : zC k w h sh u e = zC k w h sh v e := by
  funext i
  apply Bool.eq_iff_iff.mpr
  constructor
  · intro hi
    rw [← hq]
    exact zC_mono htu hi
  · exact fun hi => zC_mono huv hi
/-- a child of a node of level l, by its head -/
def IsCh (k w h : Nat) (sh : Nat → Nat) (S : Nat → Bool) (l x : Nat) : Prop := S x = true ∧ l < sh x ∧ IsHd (w * h) sh (zC k w h sh (l + 1) x) (sh x) x
theorem ch_node {k w h : Nat} {sh : Nat → Nat} {S : Nat → Bool} {l e x : Nat} (hS : Nd k w h sh S l e) (hx : IsCh k w h sh S l x) : zC k w h sh (l + 1) x = zC k w h sh (sh x) x ∧ Nd k w h sh (zC k w h sh (sh x) x) (sh x) x ∧ zC k w h sh (sh x) x ≠ S ∧ zpl (fun t => zC k w h sh t x) (sh x) (sh x) = some l ∧ zC k w h sh l x = S := by
  obtain ⟨h1, h2, h3⟩ := hx
  have hxn := hS.lt h1
  have hf := zC_flat (k := k) (sh := sh) (t := l + 1) (u := sh x) hxn (by omega) (Nat.le_refl _) h3.2.2.2.2
  have hl : zC k w h sh l x = S := by
    rw [hS.2] at h1
    rw [hS.2]
    exact (zC_eq h1).symm
  have hne : zC k w h sh (sh x) x ≠ S := fun q => by
    have h4 := hS.1.2.1
    rw [← q, ← hf] at h4
    have := zC_le h4
    have := hS.lv
    omega
  refine ⟨hf, ⟨by rw [← hf]; exact h3, rfl⟩, hne, ?_, hl⟩
  refine zpl_at (c := fun t => zC k w h sh t x) h2 ?_ (fun u a b => ?_)
  · show zC k w h sh l x ≠ zC k w h sh (sh x) x
    rw [hl]
    exact fun q => hne q.symm
  · exact zC_sq (t := l + 1) (by omega) (by omega) hf
theorem ch_iff {k w h : Nat} {sh : Nat → Nat} {S : Nat → Bool} {l e x : Nat} (hS : Nd k w h sh S l e) (hxS : S x = true) : IsCh k w h sh S l x ↔ (zh k w h sh x = true ∧ zC k w h sh (sh x) x ≠ S ∧ zpr (fun t => zC k w h sh t x) (sh x) (sh x) = S) := by
  have hxn := hS.lt hxS
  constructor
  · intro hx
    obtain ⟨a1, a2, a3, a4, a5⟩ := ch_node hS hx
    refine ⟨zh_iff.mpr ⟨hxn, a2⟩, a3, ?_⟩
    unfold zpr
    rw [a4]
    exact a5
  · rintro ⟨b1, b2, b3⟩
    obtain ⟨-, hN⟩ := zh_iff.mp b1
    cases hz : zpl (fun t => zC k w h sh t x) (sh x) (sh x) with
    | none =>
      unfold zpr at b3
      rw [hz] at b3
      exact absurd b3 b2
    | some s =>
      unfold zpr at b3
      rw [hz] at b3
      obtain ⟨e2, n1, n2, n3⟩ := nd_parent hN hz
      have b3 : zC k w h sh s x = S := b3
      rw [b3] at n1
      obtain ⟨rfl, -⟩ := n1.uniq hS
      obtain ⟨-, -, hb⟩ := zpl_some hz
      have hq : zC k w h sh (s + 1) x = zC k w h sh (sh x) x := by
        rcases Nat.lt_or_ge (s + 1) (sh x) with q | q
        · exact hb (s + 1) (by omega) q
        · rw [show s + 1 = sh x by omega]
      exact ⟨hxS, n3, by rw [hq]; exact hN.1⟩
/-- the parts of what is brighter in a node -/
theorem zp_in {k w h : Nat} {sh : Nat → Nat} {S : Nat → Bool} {l e x : Nat} (hS : Nd k w h sh S l e) (hx : (S x && up (w * h) sh (l + 1) x) = true) : zp k w (fun i => S i && up (w * h) sh (l + 1) i) x = zC k w h sh (l + 1) x := by
  rw [Bool.and_eq_true] at hx
  have hsub : ∀ i, zC k w h sh (l + 1) x i = true → S i = true := fun i hi => by
    have h1 := hx.1
    rw [hS.2] at h1 ⊢
    rw [zC_eq h1]
    exact zC_mono (Nat.le_succ l) hi
  funext i
  apply Bool.eq_iff_iff.mpr
  constructor
  · exact fun hi => zp_mono (fun j hj => by rw [Bool.and_eq_true] at hj; exact hj.2) hi
  · intro hi
    refine zp_closed (X := zp k w (fun i => S i && up (w * h) sh (l + 1) i) x) (S := up (w * h) sh (l + 1)) (zp_self (by rw [Bool.and_eq_true]; exact hx)) (fun a b ha haS hb hab => ?_) hi
    have ha2 : zC k w h sh (l + 1) x a = true := zp_mono (fun j hj => by rw [Bool.and_eq_true] at hj; exact hj.2) ha
    have hb2 : zC k w h sh (l + 1) x b = true := zp_iff.mpr (zc_step (zp_iff.mp ha2) hb hab)
    exact zp_iff.mpr (zc_step (zp_iff.mp ha) (by rw [Bool.and_eq_true]; exact ⟨hsub b hb2, hb⟩) hab)
noncomputable def zch (k w h : Nat) (sh : Nat → Nat) (S : Nat → Bool) (l x : Nat) : Bool := @decide (IsCh k w h sh S l x) (Classical.propDecidable _)
theorem zch_iff {k w h : Nat} {sh : Nat → Nat} {S : Nat → Bool} {l x : Nat} : zch k w h sh S l x = true ↔ IsCh k w h sh S l x := by unfold zch; exact @decide_eq_true_iff _ (Classical.propDecidable _)
/-- every part of what is brighter has a head: a child -/
theorem ch_ex {k w h : Nat} {sh : Nat → Nat} {S : Nat → Bool} {l e x : Nat} (hS : Nd k w h sh S l e) (hx : S x = true) (hl : l < sh x) : ∃ y, IsCh k w h sh S l y ∧ zC k w h sh (l + 1) x y = true := by
  have hxn := hS.lt hx
  obtain ⟨m, y, hy⟩ := ex_hd (n := w * h) (sh := sh) (S := zC k w h sh (l + 1) x) (fun i hi => zC_lt hi) ⟨x, zC_self hxn hl⟩
  have hyS : S y = true := by
    rw [hS.2] at hx ⊢
    rw [zC_eq hx]
    exact zC_mono (Nat.le_succ l) hy.2.1
  have hyl := zC_le hy.2.1
  refine ⟨y, ⟨hyS, hyl, ?_⟩, hy.2.1⟩
  rw [← zC_eq hy.2.1, hy.2.2.1]
  exact hy
theorem ch_count {k w h : Nat} {sh : Nat → Nat} {S : Nat → Bool} {l e : Nat} (hn : w * h ≤ 36) (hS : Nd k w h sh S l e) : zcnt k w (fun i => S i && up (w * h) sh (l + 1) i) = fb_ct (zch k w h sh S l) 36 := by
  have hT : ∀ i, (S i && up (w * h) sh (l + 1) i) = true → S i = true ∧ l < sh i ∧ i < 36 := fun i hi => by
    rw [Bool.and_eq_true] at hi
    exact ⟨hi.1, up_le hi.2, Nat.lt_of_lt_of_le (up_lt hi.2) hn⟩
  have hld : ∀ x, ld k w (fun i => S i && up (w * h) sh (l + 1) i) x = true ↔ (S x = true ∧ l < sh x) ∧ ∀ j, j < x → zC k w h sh (l + 1) x j = false := fun x => by
    rw [ld_lf, lf_iff]
    constructor
    · rintro ⟨a, b⟩
      exact ⟨⟨(hT x a).1, (hT x a).2.1⟩, fun j hj => by rw [← zp_in hS a]; exact b j hj⟩
    · rintro ⟨⟨a1, a2⟩, b⟩
      have a : (S x && up (w * h) sh (l + 1) x) = true := by rw [Bool.and_eq_true]; exact ⟨a1, up_mk (hS.lt a1) a2⟩
      exact ⟨a, fun j hj => by rw [zp_in hS a]; exact b j hj⟩
  -- the head of a part, and its least dot
  have hF : ∀ x, ∃ y, ld k w (fun i => S i && up (w * h) sh (l + 1) i) x = true → IsCh k w h sh S l y ∧ zC k w h sh (l + 1) x y = true := fun x => by
    by_cases hx : ld k w (fun i => S i && up (w * h) sh (l + 1) i) x = true
    · obtain ⟨⟨a1, a2⟩, -⟩ := (hld x).mp hx
      obtain ⟨y, hy⟩ := ch_ex hS a1 a2
      exact ⟨y, fun _ => hy⟩
    · exact ⟨0, fun q => absurd q hx⟩
  have hG : ∀ y, ∃ x, IsCh k w h sh S l y → ld k w (fun i => S i && up (w * h) sh (l + 1) i) x = true ∧ zC k w h sh (l + 1) y x = true := fun y => by
    by_cases hy : IsCh k w h sh S l y
    · obtain ⟨x, hx, hmin⟩ := pk_least (fun x => zC k w h sh (l + 1) y x = true) ⟨y, zC_self (hS.lt hy.1) hy.2.1⟩
      refine ⟨x, fun _ => ⟨(hld x).mpr ⟨⟨?_, zC_le hx⟩, fun j hj => ?_⟩, hx⟩⟩
      · have h1 := hy.1
        rw [hS.2] at h1 ⊢
        rw [zC_eq h1]
        exact zC_mono (Nat.le_succ l) hx
      · rw [← zC_eq hx]
        exact Bool.eq_false_iff.mpr (hmin j hj)
    · exact ⟨0, fun q => absurd q hy⟩
  have hF2 : ∃ f : Nat → Nat, ∀ x, ld k w (fun i => S i && up (w * h) sh (l + 1) i) x = true → IsCh k w h sh S l (f x) ∧ zC k w h sh (l + 1) x (f x) = true := ⟨fun x => Classical.choose (hF x), fun x => Classical.choose_spec (hF x)⟩
  have hG2 : ∃ g : Nat → Nat, ∀ y, IsCh k w h sh S l y → ld k w (fun i => S i && up (w * h) sh (l + 1) i) (g y) = true ∧ zC k w h sh (l + 1) y (g y) = true := ⟨fun y => Classical.choose (hG y), fun y => Classical.choose_spec (hG y)⟩
  obtain ⟨f, hf⟩ := hF2
  obtain ⟨g, hg⟩ := hG2
  have luniq : ∀ x y, ld k w (fun i => S i && up (w * h) sh (l + 1) i) x = true → ld k w (fun i => S i && up (w * h) sh (l + 1) i) y = true → zC k w h sh (l + 1) x = zC k w h sh (l + 1) y → x = y := fun x y hx hy q => by
    obtain ⟨⟨a1, a2⟩, a3⟩ := (hld x).mp hx
    obtain ⟨⟨b1, b2⟩, b3⟩ := (hld y).mp hy
    rcases Nat.lt_trichotomy x y with z | z | z
    · have := b3 x z
      rw [← q, zC_self (hS.lt a1) a2] at this
      exact nomatch this
    · exact z
    · have := a3 y z
      rw [q, zC_self (hS.lt b1) b2] at this
      exact nomatch this
  have huniq : ∀ x y, IsCh k w h sh S l x → IsCh k w h sh S l y → zC k w h sh (l + 1) x = zC k w h sh (l + 1) y → x = y := fun x y hx hy q => by
    have h1 := hx.2.2
    have h2 := hy.2.2
    rw [q] at h1
    exact h1.head_unique h2
  unfold zcnt
  apply Nat.le_antisymm
  · refine ct_inj f (fun x _ hx => ?_) (fun x y _ _ hx hy q => ?_)
    · obtain ⟨a, b⟩ := hf x hx
      exact ⟨Nat.lt_of_lt_of_le (zC_lt b) hn, zch_iff.mpr a⟩
    · apply luniq x y hx hy
      rw [zC_eq (hf x hx).2, zC_eq (hf y hy).2, q]
  · refine ct_inj g (fun y _ hy => ?_) (fun x y _ _ hx hy q => ?_)
    · obtain ⟨a, b⟩ := hg y (zch_iff.mp hy)
      exact ⟨Nat.lt_of_lt_of_le (zC_lt b) hn, a⟩
    · have hx := zch_iff.mp hx
      have hy := zch_iff.mp hy
      apply huniq x y hx hy
      rw [zC_eq (hg x hx).2, zC_eq (hg y hy).2, q]
/-! the children, on both sides -/
theorem p_children7 {p : Nat → Int32} {gw gd gh : Int32} {ga gl gr : Int64} {sL : Nat → Int64} {k w h : Nat} {sh : Nat → Nat} (H : Sys p gw gd gh ga gl gr sL k w h sh) {S : Nat → Bool} {l e : Nat} (hS : Nd k w h sh S l e) : fX6_countChildren gw gd gl gr sL (zs S) (nI l) = some (nI (fb_ct (zch k w h sh S l) 36)) := by
  unfold fX6_countChildren fX1_way
  have h9 := H.sh9 e hS.1.1
  have hl := hS.lv
  rw [nI_1, sh_b1_s (p_atLeast H.2.2 H.sh9 (by omega)), zs_and]
  show sh_b1 (fX1_countParts gd gl gr (zs (fun i => S i && up (w * h) sh (l + 1) i)) gw) _ = _
  rw [H.2.1.1, sh_b1_s (p_countParts H.2.1 H.1.kk (fun i hi => by rw [Bool.and_eq_true] at hi; exact up_lt hi.2)), ch_count H.1.n36 hS]
theorem p_children8_L {p : Nat → Int32} {k w h : Nat} {sh : Nat → Nat} (H : Pic p k w h sh) {S : Nat → Bool} {l e : Nat} (hS : Nd k w h sh S l e) : ∀ (r n d : Nat), d + r = w * h → r < n → fX8_children_L5 n (zs S) (nI (fb_ct (zch k w h sh S l) d)) (nI d) p = some (nI (fb_ct (zch k w h sh S l) (w * h))) := by
  have h36 := H.n36
  have hS36 : ∀ i, S i = true → i < 36 := fun i hi => Nat.lt_of_lt_of_le (hS.lt hi) h36
  intro r
  induction r with
  | zero =>
    intro n d hd hn
    obtain ⟨n, rfl⟩ : ∃ m, n = m + 1 := ⟨n - 1, by omega⟩
    obtain rfl : d = w * h := by omega
    rw [fX8_children_L5_s, sh_b1_s H.dots, if_pos (nI_le (Nat.le_refl _) (by omega))]
  | succ r ih =>
    intro n d hd hn
    obtain ⟨n, rfl⟩ : ∃ m, n = m + 1 := ⟨n - 1, by omega⟩
    have hs := ih n (d + 1) (by omega) (by omega)
    have hdn : d < w * h := by omega
    rw [fb_ct_succ] at hs
    rw [fX8_children_L5_s, sh_b1_s H.dots, if_neg (nI_ge (by omega) (by omega)), sh_b1_s (p_has _ (by omega)), zb_zs' hS36, nI_1]
    have hno : zch k w h sh S l d = false → fX8_children_L5 n (zs S) (nI (fb_ct (zch k w h sh S l) d)) (nI (d + 1)) p = some (nI (fb_ct (zch k w h sh S l) (w * h))) := fun q => by
      rw [q] at hs
      exact hs
    have h0 : nI (fb_ct (zch k w h sh S l) d) + 0 = nI (fb_ct (zch k w h sh S l) d) := by simp
    cases hSd : S d with
    | false => rw [if_pos z01_f]; exact hno (Bool.eq_false_iff.mpr (fun q => by have := (zch_iff.mp q).1; rw [hSd] at this; exact nomatch this))
    | true =>
      have hci := ch_iff hS hSd
      rw [if_neg z01_t, sh_b1_s (p_isHead H hdn)]
      cases hh : zh k w h sh d with
      | false => rw [if_pos z01_f]; exact hno (Bool.eq_false_iff.mpr (fun q => by have := (hci.mp (zch_iff.mp q)).1; rw [hh] at this; exact nomatch this))
      | true =>
        have hN := (zh_iff.mp hh).2
        have hN36 : ∀ i, zC k w h sh (sh d) d i = true → i < 36 := fun i hi => Nat.lt_of_lt_of_le (zC_lt hi) h36
        rw [if_neg z01_t, sh_b1_s (p_nodeOf H hdn)]
        by_cases q1 : zC k w h sh (sh d) d = S
        · rw [if_pos (show zs (zC k w h sh (sh d) d) = zs S by rw [q1]), h0]
          exact hno (Bool.eq_false_iff.mpr (fun q => (hci.mp (zch_iff.mp q)).2.1 q1))
        · have hpar36 : ∀ i, zpr (fun t => zC k w h sh t d) (sh d) (sh d) i = true → i < 36 := fun i hi => by
            unfold zpr at hi
            cases hz : zpl (fun t => zC k w h sh t d) (sh d) (sh d) with
            | none => rw [hz] at hi; exact hN36 i hi
            | some s => rw [hz] at hi; exact Nat.lt_of_lt_of_le (zC_lt hi) h36
          rw [if_neg (fun z => q1 (zs_inj hN36 hS36 z)), sh_b1_s (p_parent8 H hN)]
          by_cases q2 : zpr (fun t => zC k w h sh t d) (sh d) (sh d) = S
          · rw [if_pos (by rw [q2]), nI_1]
            rw [zch_iff.mpr (hci.mpr ⟨hh, q1, q2⟩)] at hs
            exact hs
          · rw [if_neg (fun z => q2 (zs_inj hpar36 hS36 z)), h0]
            exact hno (Bool.eq_false_iff.mpr (fun q => q2 (hci.mp (zch_iff.mp q)).2.2))
theorem p_children8 {p : Nat → Int32} {k w h : Nat} {sh : Nat → Nat} (H : Pic p k w h sh) {S : Nat → Bool} {l e : Nat} (hS : Nd k w h sh S l e) : fX8_children p (zs S) = some (nI (fb_ct (zch k w h sh S l) 36)) := by
  unfold fX8_children
  have h36 := H.n36
  have hq := p_children8_L H hS (w * h) sh_fu 0 (by omega) (by unfold sh_fu; omega)
  rw [nI_0, show nI (fb_ct (zch k w h sh S l) 0) = 0 from rfl, show fb_ct (zch k w h sh S l) (w * h) = fb_ct (zch k w h sh S l) 36 from (ct_tail h36 (fun j hj _ => Bool.eq_false_iff.mpr (fun q => by have := hS.lt (zch_iff.mp q).1; omega))).symm] at hq
  rw [sh_b1_s hq]
