/-! heads and nodes -/
noncomputable def zh (k w h : Nat) (sh : Nat → Nat) (d : Nat) : Bool := @decide (d < w * h ∧ Nd k w h sh (zC k w h sh (sh d) d) (sh d) d) (Classical.propDecidable _)
theorem zh_iff {k w h : Nat} {sh : Nat → Nat} {d : Nat} : zh k w h sh d = true ↔ d < w * h ∧ Nd k w h sh (zC k w h sh (sh d) d) (sh d) d := by unfold zh; exact @decide_eq_true_iff _ (Classical.propDecidable _)
theorem Nd.uniq {k w h : Nat} {sh : Nat → Nat} {S : Nat → Bool} {l e l2 e2 : Nat} (h1 : Nd k w h sh S l e) (h2 : Nd k w h sh S l2 e2) : l = l2 ∧ e = e2 := ⟨h1.1.level_unique h2.1, h1.1.head_unique h2.1⟩
theorem p_isHead {p : Nat → Int32} {k w h : Nat} {sh : Nat → Nat} (H : Pic p k w h sh) {d : Nat} (hd : d < w * h) : fX8_isHead p (nI d) = some (z01 (zh k w h sh d)) := by
  unfold fX8_isHead
  have h36 := H.n36
  obtain ⟨e, he⟩ := nd_dot (k := k) (sh := sh) hd
  have hel := he.1.1
  rw [sh_b1_s (p_nodeOf H hd), sh_b1_s (p_head8 H (fun i hi => zC_lt hi) he.1)]
  by_cases q : e = d
  · subst q
    rw [if_pos rfl, zh_iff.mpr ⟨hd, he⟩]; rfl
  · rw [if_neg (fun z => q ((nI_eq (by omega) (by omega)).mp z)), Bool.eq_false_iff.mpr (fun z => q (he.uniq (zh_iff.mp z).2).2)]; rfl
theorem p_nodes8_L {p : Nat → Int32} {k w h : Nat} {sh : Nat → Nat} (H : Pic p k w h sh) : ∀ (r n d : Nat), d + r = w * h → r < n → fX8_nodes_L4 n (nI (fb_ct (zh k w h sh) d)) (nI d) p = some (nI (fb_ct (zh k w h sh) (w * h))) := by
  have h36 := H.n36
  intro r
  induction r with
  | zero =>
    intro n d hd hn
    obtain ⟨n, rfl⟩ : ∃ m, n = m + 1 := ⟨n - 1, by omega⟩
    obtain rfl : d = w * h := by omega
    rw [fX8_nodes_L4_s, sh_b1_s H.dots, if_pos (nI_le (Nat.le_refl _) (by omega))]
  | succ r ih =>
    intro n d hd hn
    obtain ⟨n, rfl⟩ : ∃ m, n = m + 1 := ⟨n - 1, by omega⟩
    have hs := ih n (d + 1) (by omega) (by omega)
    rw [fb_ct_succ] at hs
    rw [fX8_nodes_L4_s, sh_b1_s H.dots, if_neg (nI_ge (by omega) (by omega)), sh_b1_s (p_isHead H (by omega)), nI_1]
    cases hz : zh k w h sh d with
    | false =>
      rw [if_pos z01_f, show nI (fb_ct (zh k w h sh) d) + 0 = nI (fb_ct (zh k w h sh) d) from by simp]
      rw [hz] at hs
      exact hs
    | true =>
      rw [if_neg z01_t, nI_1]
      rw [hz] at hs
      exact hs
theorem zh_ct {k w h : Nat} {sh : Nat → Nat} (hn : w * h ≤ 36) : fb_ct (zh k w h sh) (w * h) = fb_ct (zh k w h sh) 36 := (ct_tail hn (fun j hj _ => Bool.eq_false_iff.mpr (fun q => by have := (zh_iff.mp q).1; omega))).symm
theorem p_nodes8 {p : Nat → Int32} {k w h : Nat} {sh : Nat → Nat} (H : Pic p k w h sh) : fX8_nodes p = some (nI (fb_ct (zh k w h sh) 36)) := by
  unfold fX8_nodes
  have h36 := H.n36
  have hq := p_nodes8_L H (w * h) sh_fu 0 (by omega) (by unfold sh_fu; omega)
  rw [nI_0, show nI (fb_ct (zh k w h sh) 0) = 0 from rfl, zh_ct h36] at hq
  rw [sh_b1_s hq]
/-! the class gathers the nodes, level by level -/
/-- done: above l, or at l and less than m -/
def zdn (sh : Nat → Nat) (l m d : Nat) : Bool := decide (l < sh d) || (decide (sh d = l) && decide (d < m))
def Gat (k w h : Nat) (sh : Nat → Nat) (P : Nat → Bool) (z : Nat) (tP : Nat → Int64) (tN : Nat → Int32) : Prop := z ≤ 36 ∧ ∃ hs : Nat → Nat, (∀ i, i < z → tP i = zs (zC k w h sh (sh (hs i)) (hs i)) ∧ tN i = nI (sh (hs i))) ∧ ∀ q : Nat → Bool, fb_ct (fun i => q (hs i)) z = fb_ct (fun d => (zh k w h sh d && P d) && q d) 36
/-- dots of level l in whose part none of that level is less than m -/
noncomputable def zrt (k w h : Nat) (sh : Nat → Nat) (l m : Nat) : Nat → Bool := fun d => decide (d < w * h) && (decide (sh d = l) && decide (fb_ct (fun j => zC k w h sh l d j && decide (sh j = l)) m = 0))
theorem zrt_iff {k w h : Nat} {sh : Nat → Nat} {l m d : Nat} : zrt k w h sh l m d = true ↔ d < w * h ∧ sh d = l ∧ ∀ j, j < m → zC k w h sh l d j = true → sh j ≠ l := by
  unfold zrt
  simp only [Bool.and_eq_true, decide_eq_true_eq, fb_ct_zero]
  constructor
  · rintro ⟨a, b, c⟩
    exact ⟨a, b, fun j hj hz hl => by have := c j hj; rw [hz, decide_eq_true hl] at this; exact nomatch this⟩
  · rintro ⟨a, b, c⟩
    refine ⟨a, b, fun j hj => Bool.eq_false_iff.mpr (fun q => ?_)⟩
    simp only [Bool.and_eq_true, decide_eq_true_eq] at q
    exact c j hj q.1 q.2
theorem zrt_head {k w h : Nat} {sh : Nat → Nat} {l m e : Nat} (h1 : zrt k w h sh l m e = true) (h2 : ∀ j, j < e → zrt k w h sh l m j = false) : zh k w h sh e = true ∧ m ≤ e := by
  obtain ⟨a, b, c⟩ := zrt_iff.mp h1
  have hse := zC_self (k := k) a (Nat.le_of_eq b.symm)
  have hmin : ∀ j, j < e → zC k w h sh l e j = true → sh j ≠ l := fun j hj hz hl => by
    have : zrt k w h sh l m j = true := zrt_iff.mpr ⟨zC_lt hz, hl, fun x hx hzx hlx => c x hx (by rw [zC_eq hz]; exact hzx) hlx⟩
    rw [h2 j hj] at this
    exact nomatch this
  refine ⟨zh_iff.mpr ⟨a, ?_⟩, ?_⟩
  · rw [b]
    exact ⟨⟨a, hse, b, hmin, fun i hi => zC_le hi⟩, rfl⟩
  · exact Nat.le_of_not_lt (fun q => c e q hse b)
theorem zrt_next {k w h : Nat} {sh : Nat → Nat} {l m e : Nat} (h1 : zrt k w h sh l m e = true) (h2 : ∀ j, j < e → zrt k w h sh l m j = false) : (fun i => zrt k w h sh l m i && !zC k w h sh l e i) = zrt k w h sh l (e + 1) := by
  obtain ⟨a, b, c⟩ := zrt_iff.mp h1
  obtain ⟨hh, hme⟩ := zrt_head h1 h2
  funext i
  apply Bool.eq_iff_iff.mpr
  rw [Bool.and_eq_true, Bool.not_eq_true']
  constructor
  · rintro ⟨hi, hz⟩
    obtain ⟨a2, b2, c2⟩ := zrt_iff.mp hi
    refine zrt_iff.mpr ⟨a2, b2, fun j hj hzj hlj => ?_⟩
    have hj2 : zrt k w h sh l m j = true := zrt_iff.mpr ⟨zC_lt hzj, hlj, fun x hx hzx hlx => c2 x hx (by rw [zC_eq hzj]; exact hzx) hlx⟩
    rcases Nat.lt_or_ge j e with q | q
    · rw [h2 j q] at hj2; exact nomatch hj2
    · have hje : j = e := by omega
      subst hje
      have : zC k w h sh l j i = true := by rw [← zC_eq hzj]; exact zC_self a2 (Nat.le_of_eq b2.symm)
      rw [this] at hz
      exact nomatch hz
  · intro hi
    obtain ⟨a2, b2, c2⟩ := zrt_iff.mp hi
    refine ⟨zrt_iff.mpr ⟨a2, b2, fun j hj => c2 j (by omega)⟩, Bool.eq_false_iff.mpr (fun q => ?_)⟩
    exact c2 e (by omega) (by rw [← zC_eq q]; exact zC_self a (Nat.le_of_eq b.symm)) b
/-- one node more -/
theorem gat_next {k w h : Nat} {sh : Nat → Nat} {l m e z : Nat} {tP : Nat → Int64} {tN : Nat → Int32} (hn : w * h ≤ 36) (h1 : zrt k w h sh l m e = true) (h2 : ∀ j, j < e → zrt k w h sh l m j = false) (G : Gat k w h sh (zdn sh l m) z tP tN) : z < 36 ∧ Gat k w h sh (zdn sh l (e + 1)) (z + 1) (vp_updL tP z (zs (zC k w h sh l e))) (upd tN z (nI l)) := by
  obtain ⟨a, b, c⟩ := zrt_iff.mp h1
  obtain ⟨hh, hme⟩ := zrt_head h1 h2
  obtain ⟨hz, hs, hent, hct⟩ := G
  have hnew : ∀ d, (zh k w h sh d && zdn sh l (e + 1) d) = (if d = e then true else (zh k w h sh d && zdn sh l m d)) := by
    intro d
    by_cases hd : d = e
    · subst hd
      rw [if_pos rfl, hh]
      unfold zdn
      simp [b]
    · rw [if_neg hd]
      cases hq : zh k w h sh d with
      | false => rfl
      | true =>
        unfold zdn
        by_cases hl : sh d = l
        · have hdm : d < e + 1 ↔ d < m := by
            constructor
            · intro hde
              refine Nat.lt_of_not_le fun hmd => ?_
              obtain ⟨g1, g2⟩ := zh_iff.mp hq
              rw [hl] at g2
              have : zrt k w h sh l m d = true := zrt_iff.mpr ⟨g1, hl, fun j hj hzj hlj => g2.1.2.2.2.1 j (by omega) hzj hlj⟩
              rw [h2 d (by omega)] at this
              exact nomatch this
            · omega
          simp [hl, hdm]
        · simp [hl]
  have hold : (zh k w h sh e && zdn sh l m e) = false := by
    unfold zdn
    simp [hh, b]
    omega
  have he36 : e < 36 := by omega
  have cnt : ∀ q : Nat → Bool, fb_ct (fun d => (zh k w h sh d && zdn sh l (e + 1) d) && q d) 36 = fb_ct (fun d => (zh k w h sh d && zdn sh l m d) && q d) 36 + (if q e then 1 else 0) := by
    intro q
    have hu := fb_ct_upd (fun d => (zh k w h sh d && zdn sh l m d) && q d) (q e) (i := e) (n := 36) he36
    have e1 : fb_ct (fun d => (zh k w h sh d && zdn sh l (e + 1) d) && q d) 36 = fb_ct (fun j => if j = e then q e else (zh k w h sh j && zdn sh l m j) && q j) 36 := fb_ct_cong (fun d _ => by
      rw [hnew d]
      by_cases hd : d = e
      · subst hd; simp
      · simp [hd])
    rw [e1]
    rw [hold] at hu
    have hu2 : fb_ct (fun j => if j = e then q e else (zh k w h sh j && zdn sh l m j) && q j) 36 + 0 = fb_ct (fun d => (zh k w h sh d && zdn sh l m d) && q d) 36 + (if q e then 1 else 0) := hu
    omega
  have hz36 : z < 36 := by
    have t1 : z = fb_ct (fun d => (zh k w h sh d && zdn sh l m d) && true) 36 := by
      rw [← hct (fun _ => true)]
      exact (fb_ct_all.mpr (fun _ _ => rfl)).symm
    have t3 : fb_ct (fun d => (zh k w h sh d && zdn sh l (e + 1) d) && true) 36 = fb_ct (fun d => (zh k w h sh d && zdn sh l m d) && true) 36 + 1 := cnt (fun _ => true)
    have t4 : fb_ct (fun d => (zh k w h sh d && zdn sh l (e + 1) d) && true) 36 ≤ 36 := fb_ct_le _ _
    omega
  refine ⟨hz36, by omega, fun i => if i = z then e else hs i, fun i hi => ?_, fun q => ?_⟩
  · by_cases hiz : i = z
    · subst hiz
      dsimp only
      rw [if_pos rfl, b]
      exact ⟨pk_uLs, pk_us⟩
    · dsimp only
      rw [if_neg hiz, pk_uLn hiz, pk_un hiz]
      exact hent i (by omega)
  · rw [cnt q, ← hct q, fb_ct_succ]
    have e1 : (fun i => if i = z then e else hs i) z = e := if_pos rfl
    have e2 : fb_ct (fun i => q ((fun i => if i = z then e else hs i) i)) z = fb_ct (fun i => q (hs i)) z := fb_ct_cong (fun i hi => by
      have : (fun i => if i = z then e else hs i) i = hs i := if_neg (show ¬ i = z by omega)
      rw [this])
    rw [e2]
    congr 1
    simp
theorem p_gather_L18 {p : Nat → Int32} {gw gd gh : Int32} {ga gl gr : Int64} {sL : Nat → Int64} {k w h : Nat} {sh : Nat → Nat} (H : Sys p gw gd gh ga gl gr sL k w h sh) {l : Nat} (hl : l ≤ 9) : ∀ (r n m z : Nat) (tP : Nat → Int64) (tN : Nat → Int32), 36 ≤ m + r → m ≤ 36 → r < n → Gat k w h sh (zdn sh l m) z tP tN → ∃ z2 tP2 tN2, fX6_gather_L18 n (nI l) (zs (zrt k w h sh l m)) gw gd gl gr sL tP tN (nI z) = some (tP2, tN2, nI z2) ∧ Gat k w h sh (zdn sh l 36) z2 tP2 tN2 := by
  have h36 := H.1.n36
  have hL : ∀ m i, zrt k w h sh l m i = true → i < 36 := fun m i hi => Nat.lt_of_lt_of_le (zrt_iff.mp hi).1 h36
  have hend : ∀ m z tP tN, (∀ i, zrt k w h sh l m i = false) → m ≤ 36 → Gat k w h sh (zdn sh l m) z tP tN → Gat k w h sh (zdn sh l 36) z tP tN := by
    intro m z tP tN he hm G
    obtain ⟨a, hs, b, c⟩ := G
    refine ⟨a, hs, b, fun q => ?_⟩
    rw [c q]
    apply fb_ct_cong
    intro d hd
    cases hq : zh k w h sh d with
    | false => rfl
    | true =>
      unfold zdn
      by_cases hdl : sh d = l
      · have : d < m := Nat.lt_of_not_le fun hmd => by
          obtain ⟨g1, g2⟩ := zh_iff.mp hq
          rw [hdl] at g2
          have : zrt k w h sh l m d = true := zrt_iff.mpr ⟨g1, hdl, fun j hj hzj hlj => g2.1.2.2.2.1 j (by omega) hzj hlj⟩
          rw [he d] at this
          exact nomatch this
        simp [hdl, this, hd]
      · simp [hdl]
  intro r
  induction r with
  | zero =>
    intro n m z tP tN hr hm hn G
    obtain ⟨n, rfl⟩ : ∃ m, n = m + 1 := ⟨n - 1, by omega⟩
    have he : ∀ i, zrt k w h sh l m i = false := fun i => Bool.eq_false_iff.mpr (fun q => by
      obtain ⟨a, b, c⟩ := zrt_iff.mp q
      exact c i (by omega) (zC_self a (Nat.le_of_eq b.symm)) b)
    rw [fX6_gather_L18_s, if_pos ((zs_0 (hL m)).mpr he)]
    exact ⟨z, tP, tN, rfl, hend m z tP tN he hm G⟩
  | succ r ih =>
    intro n m z tP tN hr hm hn G
    obtain ⟨n, rfl⟩ : ∃ m, n = m + 1 := ⟨n - 1, by omega⟩
    rw [fX6_gather_L18_s]
    by_cases h0 : zs (zrt k w h sh l m) = 0
    · rw [if_pos h0]
      exact ⟨z, tP, tN, rfl, hend m z tP tN ((zs_0 (hL m)).mp h0) hm G⟩
    · obtain ⟨e, he, h1, h2⟩ := z_least (hL m) h0
      obtain ⟨hz36, G2⟩ := gat_next h36 h1 h2 G
      obtain ⟨-, hme⟩ := zrt_head h1 h2
      rw [if_neg h0, if_neg (nI_pos (by omega)), if_neg (show ¬ (36 : Int32) ≤ nI z from nI_ge (b := 36) hz36 (by omega)), p_lows he h1 h2, sh_b1_s (p_partAt H (by omega) _), zq_one, sh_b1_s (sh_astL_n hz36 (by omega)), sh_b1_s (sh_ast_n hz36 (by omega)), zs_not, nI_1]
      rw [show (fun i => zrt k w h sh l m i && !zp k w (up (w * h) sh l) e i) = zrt k w h sh l (e + 1) from zrt_next h1 h2]
      exact ih n (e + 1) (z + 1) _ _ (by omega) (by omega) (by omega) G2
theorem p_gather_L8 {p : Nat → Int32} {gw gd gh : Int32} {ga gl gr : Int64} {sL : Nat → Int64} {k w h : Nat} {sh : Nat → Nat} (H : Sys p gw gd gh ga gl gr sL k w h sh) : ∀ (t n z : Nat) (tP : Nat → Int64) (tN : Nat → Int32), t ≤ 10 → t < n → Gat k w h sh (fun d => decide (t ≤ sh d)) z tP tN → ∃ z2 tP2 tN2, fX6_gather_L8 n (nI t - 1) gw gd gl gr sL tP tN (nI z) = some (tP2, tN2, nI z2) ∧ Gat k w h sh (fun _ => true) z2 tP2 tN2 := by
  have h36 := H.1.n36
  intro t
  induction t with
  | zero =>
    intro n z tP tN _ hn G
    obtain ⟨n, rfl⟩ : ∃ m, n = m + 1 := ⟨n - 1, by omega⟩
    rw [fX6_gather_L8_s, if_pos z_neg1]
    refine ⟨z, tP, tN, rfl, ?_⟩
    obtain ⟨a, hs, b, c⟩ := G
    exact ⟨a, hs, b, fun q => by rw [c q]; exact fb_ct_cong (fun d _ => by simp)⟩
  | succ t ih =>
    intro n z tP tN ht hn G
    obtain ⟨n, rfl⟩ : ∃ m, n = m + 1 := ⟨n - 1, by omega⟩
    have G0 : Gat k w h sh (zdn sh t 0) z tP tN := by
      obtain ⟨a, hs, b, c⟩ := G
      refine ⟨a, hs, b, fun q => ?_⟩
      rw [c q]
      apply fb_ct_cong
      intro d _
      unfold zdn
      simp [Nat.lt_iff_add_one_le]
    have hr0 : zs (fun i => up (w * h) sh t i && !up (w * h) sh (t + 1) i) = zs (zrt k w h sh t 0) := zs_cong (fun i _ => by
      apply Bool.eq_iff_iff.mpr
      rw [up_eq, zrt_iff]
      exact ⟨fun q => ⟨q.1, q.2, fun j hj => absurd hj (Nat.not_lt_zero j)⟩, fun q => ⟨q.1, q.2.1⟩⟩)
    obtain ⟨z2, tP2, tN2, e2, G2⟩ := p_gather_L18 H (l := t) (by omega) 36 sh_fu 0 z tP tN (by omega) (by omega) (by unfold sh_fu; omega) G0
    rw [fX6_gather_L8_s, nI_pred, if_neg (nI_pos (by omega)), sh_b1_s (p_ofLevel H.2.2 H.sh9 (by omega)), hr0, sh_b3_s e2, z_m1]
    refine ih n z2 tP2 tN2 (by omega) (by omega) ?_
    obtain ⟨a, hs, b, c⟩ := G2
    refine ⟨a, hs, b, fun q => ?_⟩
    rw [c q]
    apply fb_ct_cong
    intro d hd
    congr 2
    apply Bool.eq_iff_iff.mpr
    unfold zdn
    simp only [Bool.or_eq_true, Bool.and_eq_true, decide_eq_true_eq]
    omega
theorem p_gather {p : Nat → Int32} {gw gd gh : Int32} {ga gl gr : Int64} {sL : Nat → Int64} {k w h : Nat} {sh : Nat → Nat} (H : Sys p gw gd gh ga gl gr sL k w h sh) (tP : Nat → Int64) (tN : Nat → Int32) : ∃ z2 tP2 tN2, fX6_gather gw gd gl gr sL tP tN = some (tP2, tN2, nI z2) ∧ Gat k w h sh (fun _ => true) z2 tP2 tN2 := by
  unfold fX6_gather
  have G0 : Gat k w h sh (fun d => decide (10 ≤ sh d)) 0 tP tN := by
    refine ⟨by omega, fun _ => 0, fun i hi => absurd hi (Nat.not_lt_zero i), fun q => ?_⟩
    refine Eq.symm (fb_ct_zero.mpr (fun d _ => Bool.eq_false_iff.mpr (fun z => ?_)))
    simp only [Bool.and_eq_true, decide_eq_true_eq] at z
    have h1 := H.sh9 d (zh_iff.mp z.1.1).1
    have h2 := z.1.2
    omega
  obtain ⟨z2, tP2, tN2, e, G⟩ := p_gather_L8 H 10 sh_fu 0 tP tN (by omega) (by unfold sh_fu; omega) G0
  rw [show (9 : Int32) = nI 10 - 1 from by decide, show (0 : Int32) = nI 0 from rfl, sh_b3_s e]
  exact ⟨z2, tP2, tN2, rfl, G⟩
theorem Gat.size {k w h : Nat} {sh : Nat → Nat} {z : Nat} {tP : Nat → Int64} {tN : Nat → Int32} (G : Gat k w h sh (fun _ => true) z tP tN) : z = fb_ct (zh k w h sh) 36 := by
  obtain ⟨-, hs, -, c⟩ := G
  have := c (fun _ => true)
  rw [show fb_ct (fun i => (fun _ => true) (hs i)) z = z from fb_ct_all.mpr (fun _ _ => rfl)] at this
  rw [this]
  exact fb_ct_cong (fun d _ => by simp)
