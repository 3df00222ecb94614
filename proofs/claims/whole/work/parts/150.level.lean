/-! levels, heads -/
def Lev (sL : Nat → Int64) (n : Nat) (sh : Nat → Nat) : Prop := ∀ t, t ≤ 9 → sL t = zs (up n sh t)
theorem up10 {n : Nat} {sh : Nat → Nat} (h9 : ∀ d, d < n → sh d ≤ 9) (i : Nat) : up n sh 10 i = false := by
  apply Bool.eq_false_iff.mpr
  intro q
  have := h9 i (up_lt q)
  have := up_le q
  omega
theorem p_atLeast {sL : Nat → Int64} {n t : Nat} {sh : Nat → Nat} (H : Lev sL n sh) (h9 : ∀ d, d < n → sh d ≤ 9) (ht : t ≤ 10) : fX2_atLeast sL (nI t) = some (zs (up n sh t)) := by
  unfold fX2_atLeast
  rw [if_neg (nI_pos (by omega))]
  rcases Nat.lt_or_ge t 10 with q | q
  · rw [if_neg (show ¬ (10 : Int32) ≤ nI t from nI_ge (b := 10) q (by omega)), sh_b1_s (sh_ald_n q (by omega)), H t (by omega)]
  · obtain rfl : t = 10 := by omega
    rw [if_pos (show (10 : Int32) ≤ nI 10 from nI_le (Nat.le_refl _) (by omega)), (zs_0 (S := up n sh 10) (fun i hi => by rw [up10 h9] at hi; exact nomatch hi)).mpr (up10 h9)]
theorem z_low1 (y : Int64) : (y &&& 1).toInt32 = z01 (zb y 0) := by
  cases h : zb y 0 with
  | true => rw [(zb_low y).mpr h]; rfl
  | false => rw [(zb_low0 y).mpr h]; rfl
theorem z_min (a t : Nat) : min a t + (if t + 1 ≤ a then 1 else 0) = min a (t + 1) := by
  split <;> omega
theorem p_of_L {sL : Nat → Int64} {n d : Nat} {sh : Nat → Nat} (H : Lev sL n sh) (hn : n ≤ 36) (hd : d < n) : ∀ (r m t : Nat), t + r = 9 → r < m → fX2_of_L4 m (nI d) (nI (min (sh d) t)) (nI (t + 1)) sL = some (nI (min (sh d) 9)) := by
  intro r
  induction r with
  | zero =>
    intro m t ht hm
    obtain ⟨m, rfl⟩ : ∃ x, m = x + 1 := ⟨m - 1, by omega⟩
    obtain rfl : t = 9 := by omega
    rw [fX2_of_L4_s, if_pos (show (10 : Int32) ≤ nI 10 from nI_le (Nat.le_refl _) (by omega))]
  | succ r ih =>
    intro m t ht hm
    obtain ⟨m, rfl⟩ : ∃ x, m = x + 1 := ⟨m - 1, by omega⟩
    have hs := ih m (t + 1) (by omega) (by omega)
    rw [fX2_of_L4_s, if_neg (show ¬ (10 : Int32) ≤ nI (t + 1) from nI_ge (b := 10) (by omega) (by omega)), sh_b1_s (sh_ald_n (by omega) (by omega)), H (t + 1) (by omega), z_low1, zb_lsr _ (by omega), Nat.add_zero, zb_zs' (fun i hi => Nat.lt_of_lt_of_le (up_lt hi) hn), nI_1]
    rw [show nI (min (sh d) t) + z01 (up n sh (t + 1) (d + 0)) = nI (min (sh d) (t + 1)) from ?_]
    · exact hs
    · show nI (min (sh d) t) + z01 (up n sh (t + 1) d) = nI (min (sh d) (t + 1))
      rw [← z_min (sh d) t]
      by_cases q : t + 1 ≤ sh d
      · rw [up_mk hd q, if_pos q]; exact nI_1 _
      · rw [show up n sh (t + 1) d = false from Bool.eq_false_iff.mpr (fun z => q (up_le z)), if_neg q, show z01 false = 0 from rfl]; simp
theorem p_of {sL : Nat → Int64} {n d : Nat} {sh : Nat → Nat} (H : Lev sL n sh) (hn : n ≤ 36) (h9 : ∀ d, d < n → sh d ≤ 9) (hd : d < n) : fX2_of sL (nI d) = some (nI (sh d)) := by
  unfold fX2_of
  have h := p_of_L H hn hd 9 sh_fu 0 (by omega) (by unfold sh_fu; omega)
  rw [Nat.min_zero, nI_0, show nI (0 + 1) = 1 from rfl, show min (sh d) 9 = sh d from Nat.min_eq_left (h9 d hd)] at h
  rw [sh_b1_s h]
/-- a picture on both sides -/
def Sys (p : Nat → Int32) (gw gd gh : Int32) (ga gl gr : Int64) (sL : Nat → Int64) (k w h : Nat) (sh : Nat → Nat) : Prop := Pic p k w h sh ∧ Lay gw gd gh ga gl gr k w h ∧ Lev sL (w * h) sh
theorem Sys.sh9 {p : Nat → Int32} {gw gd gh : Int32} {ga gl gr : Int64} {sL : Nat → Int64} {k w h : Nat} {sh : Nat → Nat} (H : Sys p gw gd gh ga gl gr sL k w h sh) : ∀ d, d < w * h → sh d ≤ 9 := fun _ hd => H.1.sh9 hd
theorem p_partAt {p : Nat → Int32} {gw gd gh : Int32} {ga gl gr : Int64} {sL : Nat → Int64} {k w h : Nat} {sh : Nat → Nat} (H : Sys p gw gd gh ga gl gr sL k w h sh) {t : Nat} (ht : t ≤ 10) (F : Nat → Bool) : fX6_partAt gw gd gl gr sL (nI t) (zs F) = some (zs (zq k w (up (w * h) sh t) F)) := by
  unfold fX6_partAt fX1_way
  rw [sh_b1_s (p_atLeast H.2.2 H.sh9 ht)]
  show sh_b1 (fX1_partAround gd gl gr (zs (up (w * h) sh t)) (zs F) gw) _ = _
  rw [H.2.1.1, sh_b1_s (p_around7 H.2.1 H.1.kk (fun i hi => up_lt hi))]
/-- the part at t of d -/
noncomputable abbrev zC (k w h : Nat) (sh : Nat → Nat) (t d : Nat) : Nat → Bool := zp k w (up (w * h) sh t) d
theorem zC_lt {k w h : Nat} {sh : Nat → Nat} {t d i : Nat} (hi : zC k w h sh t d i = true) : i < w * h := up_lt (zp_sub hi)
theorem zC_le {k w h : Nat} {sh : Nat → Nat} {t d i : Nat} (hi : zC k w h sh t d i = true) : t ≤ sh i := up_le (zp_sub hi)
theorem zC_self {k w h : Nat} {sh : Nat → Nat} {t d : Nat} (hd : d < w * h) (ht : t ≤ sh d) : zC k w h sh t d d = true := zp_self (up_mk hd ht)
theorem zC_mono {k w h : Nat} {sh : Nat → Nat} {t u d i : Nat} (h1 : t ≤ u) (hi : zC k w h sh u d i = true) : zC k w h sh t d i = true := zp_mono (up_mono h1) hi
theorem zC_eq {k w h : Nat} {sh : Nat → Nat} {t d i : Nat} (hi : zC k w h sh t d i = true) : zC k w h sh t d = zC k w h sh t i := zp_eq hi
/-- what hangs together at u stays in one part at t -/
theorem zC_q {k w h : Nat} {sh : Nat → Nat} {t u d : Nat} (hd : d < w * h) (htu : t ≤ u) (hu : u ≤ sh d) : zq k w (up (w * h) sh t) (zC k w h sh u d) = zC k w h sh t d := zq_conn (zC_self hd hu) (fun i hi => zp_iff.mp (zC_mono htu hi))
theorem p_hasDot {gd gh : Int32} {w h d : Nat} (h1 : gd = nI w) (h2 : gh = nI h) (hn : w * h < 2 ^ 31) (hd : d < w * h) : fX1_hasDot gd gh (nI d) = some 1 := by
  subst h1; subst h2
  unfold fX1_hasDot fX1_size
  rw [if_neg (nI_pos (by omega)), pk_mul]
  show (if nI (w * h) ≤ nI d then some 0 else some 1) = some 1
  rw [if_neg (nI_ge hd hn)]
theorem p_hasDot0 {gd gh x : Int32} {w h : Nat} (h1 : gd = nI w) (h2 : gh = nI h) (hx : x < 0 ∨ nI (w * h) ≤ x) : fX1_hasDot gd gh x = some 0 := by
  subst h1; subst h2
  unfold fX1_hasDot fX1_size
  rw [pk_mul]
  by_cases q : x < 0
  · rw [if_pos q]
  · rw [if_neg q]
    show (if nI (w * h) ≤ x then some 0 else some 1) = some 0
    rw [if_pos (hx.resolve_left q)]
theorem p_nodeOf7 {p : Nat → Int32} {gw gd gh : Int32} {ga gl gr : Int64} {sL : Nat → Int64} {k w h : Nat} {sh : Nat → Nat} (H : Sys p gw gd gh ga gl gr sL k w h sh) {d : Nat} (hd : d < w * h) : fX6_nodeOf gw gd gh gl gr sL (nI d) = some (zs (zC k w h sh (sh d) d)) := by
  have h36 := H.1.n36
  have h9 := H.sh9 d hd
  unfold fX6_nodeOf
  rw [sh_b1_s (p_hasDot H.2.1.2.1 H.2.1.2.2.1 (by omega) hd), if_neg (by decide), sh_b1_s (p_of H.2.2 h36 H.sh9 hd), zs_bit (by omega), sh_b1_s (p_partAt H (by omega) _), zq_one]
/-- level and head of a set -/
def IsHd (n : Nat) (sh : Nat → Nat) (S : Nat → Bool) (l e : Nat) : Prop := e < n ∧ S e = true ∧ sh e = l ∧ (∀ j, j < e → S j = true → sh j ≠ l) ∧ ∀ i, S i = true → l ≤ sh i
theorem ex_hd {n : Nat} {sh : Nat → Nat} {S : Nat → Bool} (hS : ∀ i, S i = true → i < n) (hx : ∃ i, S i = true) : ∃ l e, IsHd n sh S l e := by
  obtain ⟨i0, hi0⟩ := hx
  have h1 : ∃ l, (∃ i, S i = true ∧ sh i = l) ∧ ∀ l2, l2 < l → ¬ ∃ i, S i = true ∧ sh i = l2 := pk_least _ ⟨sh i0, i0, hi0, rfl⟩
  obtain ⟨l, hl, hmin⟩ := h1
  obtain ⟨e, ⟨he1, he2⟩, hmin2⟩ := pk_least (fun i => S i = true ∧ sh i = l) hl
  exact ⟨l, e, hS e he1, he1, he2, fun j hj hs hl2 => hmin2 j hj ⟨hs, hl2⟩, fun i hi => Nat.le_of_not_lt (fun q => hmin (sh i) q ⟨i, hi, rfl⟩)⟩
theorem IsHd.level_unique {n : Nat} {sh : Nat → Nat} {S : Nat → Bool} {l e l2 e2 : Nat} (h1 : IsHd n sh S l e) (h2 : IsHd n sh S l2 e2) : l = l2 := by
  have a := h1.2.2.2.2 e2 h2.2.1
  have b := h2.2.2.2.2 e h1.2.1
  rw [h2.2.2.1] at a
  rw [h1.2.2.1] at b
  omega
theorem IsHd.head_unique {n : Nat} {sh : Nat → Nat} {S : Nat → Bool} {l e l2 e2 : Nat} (h1 : IsHd n sh S l e) (h2 : IsHd n sh S l2 e2) : e = e2 := by
  have hl := h1.level_unique h2
  subst hl
  rcases Nat.lt_trichotomy e e2 with q | q | q
  · exact absurd h1.2.2.1 (h2.2.2.2.1 e q h1.2.1)
  · exact q
  · exact absurd h2.2.2.1 (h1.2.2.2.1 e2 q h2.2.1)
/-- the least so far, as the reference counts -/
def zlv (sh : Nat → Nat) (S : Nat → Bool) : Nat → Nat
  | 0 => 10
  | n + 1 => if S n = true ∧ sh n < zlv sh S n then sh n else zlv sh S n
theorem zlv_le {sh : Nat → Nat} {S : Nat → Bool} : ∀ {n i : Nat}, i < n → S i = true → zlv sh S n ≤ sh i := by
  intro n
  induction n with
  | zero => intro i h; exact absurd h (Nat.not_lt_zero i)
  | succ n ih =>
    intro i hi hs
    unfold zlv
    rcases Nat.lt_or_ge i n with q | q
    · have := ih q hs
      split
      · omega
      · exact this
    · obtain rfl : i = n := by omega
      split
      · omega
      · rename_i hc
        exact Nat.le_of_not_lt (fun z => hc ⟨hs, z⟩)
theorem zlv_ge {sh : Nat → Nat} {S : Nat → Bool} {l : Nat} (hl : l ≤ 10) (h : ∀ i, S i = true → l ≤ sh i) : ∀ n, l ≤ zlv sh S n := by
  intro n
  induction n with
  | zero => exact hl
  | succ n ih =>
    unfold zlv
    split
    · rename_i hc
      exact h n hc.1
    · exact ih
theorem zlv_is {n : Nat} {sh : Nat → Nat} {S : Nat → Bool} {l e : Nat} (h : IsHd n sh S l e) (h9 : ∀ d, d < n → sh d ≤ 9) : zlv sh S n = l := by
  have a := zlv_le (sh := sh) h.1 h.2.1
  have b := h9 e h.1
  rw [h.2.2.1] at a b
  exact Nat.le_antisymm a (zlv_ge (by omega) h.2.2.2.2 n)
theorem zlv10 {sh : Nat → Nat} {S : Nat → Bool} : ∀ n, zlv sh S n ≤ 10 := by
  intro n
  induction n with
  | zero => exact Nat.le_refl _
  | succ n ih =>
    unfold zlv
    split
    · omega
    · exact ih
theorem p_level_L {p : Nat → Int32} {k w h : Nat} {sh : Nat → Nat} (H : Pic p k w h sh) (S : Nat → Bool) (x : Int64) (hx : ∀ i, i < w * h → zb x i = S i) : ∀ (r n d : Nat), d + r = w * h → r < n → fX8_level_L6 n x (nI (zlv sh S d)) (nI d) p = some (nI (zlv sh S (w * h))) := by
  have h36 := H.n36
  intro r
  induction r with
  | zero =>
    intro n d hd hn
    obtain ⟨n, rfl⟩ : ∃ m, n = m + 1 := ⟨n - 1, by omega⟩
    obtain rfl : d = w * h := by omega
    rw [fX8_level_L6_s, sh_b1_s H.dots, if_pos (nI_le (Nat.le_refl _) (by omega))]
  | succ r ih =>
    intro n d hd hn
    obtain ⟨n, rfl⟩ : ∃ m, n = m + 1 := ⟨n - 1, by omega⟩
    have hs := ih n (d + 1) (by omega) (by omega)
    have hz := zlv10 (sh := sh) (S := S) d
    have h9 := H.sh9 (d := d) (by omega)
    rw [fX8_level_L6_s, sh_b1_s H.dots, if_neg (nI_ge (by omega) (by omega)), sh_b1_s (p_has _ (by omega)), hx d (by omega), nI_1]
    cases hS : S d with
    | false =>
      rw [if_pos z01_f]
      rw [show zlv sh S (d + 1) = zlv sh S d from by simp [zlv, hS]] at hs
      exact hs
    | true =>
      rw [if_neg z01_t, sh_b1_s (H.shade (by omega))]
      by_cases q : zlv sh S d ≤ sh d
      · rw [if_pos (nI_le q (by omega))]
        rw [show zlv sh S (d + 1) = zlv sh S d from by simp [zlv, hS]; omega] at hs
        exact hs
      · rw [if_neg (nI_ge (by omega) (by omega)), sh_b1_s (H.shade (by omega))]
        rw [show zlv sh S (d + 1) = sh d from by simp [zlv, hS]; omega] at hs
        exact hs
theorem p_levelz {p : Nat → Int32} {k w h : Nat} {sh : Nat → Nat} (H : Pic p k w h sh) (S : Nat → Bool) (x : Int64) (hx : ∀ i, i < w * h → zb x i = S i) : fX8_level p x = some (nI (zlv sh S (w * h))) := by
  unfold fX8_level
  have h36 := H.n36
  have hq := p_level_L H S x hx (w * h) sh_fu 0 (by omega) (by unfold sh_fu; omega)
  rw [nI_0, show nI (zlv sh S 0) = 10 from rfl] at hq
  rw [sh_b1_s hq]
theorem p_level8 {p : Nat → Int32} {k w h : Nat} {sh : Nat → Nat} (H : Pic p k w h sh) {S : Nat → Bool} {l e : Nat} (hS : IsHd (w * h) sh S l e) : fX8_level p (zs S) = some (nI l) := by
  have h36 := H.n36
  rw [p_levelz H S (zs S) (fun i hi => by rw [zb_zs]; simp [show i < 36 by omega]), zlv_is hS (fun d hd => H.sh9 hd)]
theorem p_head_L {p : Nat → Int32} {k w h : Nat} {sh : Nat → Nat} (H : Pic p k w h sh) {S : Nat → Bool} (hSn : ∀ i, S i = true → i < w * h) {l e : Nat} (hS : IsHd (w * h) sh S l e) : ∀ (r n d : Nat), d + r = e → r < n → fX8_head_L9 n (zs S) (nI l) (nI d) p = some (nI e) := by
  have h36 := H.n36
  have h9 := H.sh9 hS.1
  have hl := hS.2.2.1
  have hb : ∀ i, zb (zs S) i = S i := zb_zs' (fun i hi => Nat.lt_of_lt_of_le (hSn i hi) h36)
  intro r
  induction r with
  | zero =>
    intro n d hd hn
    obtain ⟨n, rfl⟩ : ∃ m, n = m + 1 := ⟨n - 1, by omega⟩
    obtain rfl : d = e := by omega
    have hd := hS.1
    rw [fX8_head_L9_s, sh_b1_s (p_has _ (by omega)), hb, hS.2.1, if_neg z01_t, sh_b1_s (H.shade hS.1), hl, if_pos rfl]
  | succ r ih =>
    intro n d hd hn
    obtain ⟨n, rfl⟩ : ∃ m, n = m + 1 := ⟨n - 1, by omega⟩
    have he := hS.1
    have hs := ih n (d + 1) (by omega) (by omega)
    have h9d := H.sh9 (d := d) (by omega)
    rw [fX8_head_L9_s, sh_b1_s (p_has _ (by omega)), hb, nI_1]
    cases hSd : S d with
    | false => rw [if_pos z01_f]; exact hs
    | true =>
      rw [if_neg z01_t, sh_b1_s (H.shade (by omega)), if_neg (fun q => hS.2.2.2.1 d (by omega) hSd ((nI_eq (by omega) (by omega)).mp q))]
      exact hs
theorem p_head8 {p : Nat → Int32} {k w h : Nat} {sh : Nat → Nat} (H : Pic p k w h sh) {S : Nat → Bool} (hSn : ∀ i, S i = true → i < w * h) {l e : Nat} (hS : IsHd (w * h) sh S l e) : fX8_head p (zs S) = some (nI e) := by
  unfold fX8_head
  have h36 := H.n36
  have he := hS.1
  have hq := p_head_L H hSn hS e sh_fu 0 (by omega) (by unfold sh_fu; omega)
  rw [nI_0] at hq
  rw [sh_b1_s (p_level8 H hS), sh_b1_s hq]
theorem p_ofLevel {sL : Nat → Int64} {n l : Nat} {sh : Nat → Nat} (H : Lev sL n sh) (h9 : ∀ d, d < n → sh d ≤ 9) (hl : l ≤ 9) : fX6_ofLevel sL (nI l) = some (zs (fun i => up n sh l i && !up n sh (l + 1) i)) := by
  unfold fX6_ofLevel
  rw [sh_b1_s (p_atLeast H h9 (by omega)), nI_1, sh_b1_s (p_atLeast H h9 (by omega)), zs_not]
theorem up_eq {n l i : Nat} {sh : Nat → Nat} : (up n sh l i && !up n sh (l + 1) i) = true ↔ i < n ∧ sh i = l := by
  unfold up
  simp only [Bool.and_eq_true, decide_eq_true_eq, Bool.not_eq_true', Bool.and_eq_false_iff, decide_eq_false_iff_not]
  constructor
  · rintro ⟨⟨a, b⟩, c | c⟩
    · exact absurd a c
    · exact ⟨a, by omega⟩
  · rintro ⟨a, rfl⟩
    exact ⟨⟨a, Nat.le_refl _⟩, Or.inr (by omega)⟩
theorem p_head7 {sL : Nat → Int64} {n : Nat} {sh : Nat → Nat} (H : Lev sL n sh) (hn : n ≤ 36) (h9 : ∀ d, d < n → sh d ≤ 9) {S : Nat → Bool} {l e : Nat} (hS : IsHd n sh S l e) : fX6_head sL (zs S) (nI l) = some (nI e) := by
  unfold fX6_head
  have he := hS.1
  have h9e := h9 e he
  have hl := hS.2.2.1
  rw [sh_b1_s (p_ofLevel H h9 (by omega)), zs_and, sh_b1_s (p_lowc (e := e) (by omega) (by rw [hS.2.1, Bool.true_and]; exact up_eq.mpr ⟨he, hl⟩) (fun j hj => ?_))]
  apply Bool.eq_false_iff.mpr
  intro q
  rw [Bool.and_eq_true] at q
  exact hS.2.2.2.1 j hj q.1 (up_eq.mp q.2).2
