/-! boxes -/
def zmn (f : Nat → Nat) (S : Nat → Bool) : Nat → Nat
  | 0 => 6
  | n + 1 => if S n = true ∧ f n < zmn f S n then f n else zmn f S n
def zmx (f : Nat → Nat) (S : Nat → Bool) : Nat → Int32
  | 0 => -1
  | n + 1 => if S n = true ∧ ¬ nI (f n) ≤ zmx f S n then nI (f n) else zmx f S n
theorem zmn6 {f : Nat → Nat} {S : Nat → Bool} : ∀ n, zmn f S n ≤ 6 := by
  intro n
  induction n with
  | zero => exact Nat.le_refl _
  | succ n ih =>
    unfold zmn
    split
    · omega
    · exact ih
theorem zmn_le {f : Nat → Nat} {S : Nat → Bool} : ∀ {n i : Nat}, i < n → S i = true → zmn f S n ≤ f i := by
  intro n
  induction n with
  | zero => intro i h; exact absurd h (Nat.not_lt_zero i)
  | succ n ih =>
    intro i hi hs
    unfold zmn
    rcases Nat.lt_or_ge i n with q | q
    · have := ih q hs
      split
      · omega
      · exact this
    · obtain rfl : i = n := by omega
      split
      · omega
      · rename_i hc
        exact Nat.le_of_not_lt (fun z => hc ⟨hs, z⟩)
theorem zmn_mem {f : Nat → Nat} {S : Nat → Bool} : ∀ n, zmn f S n = 6 ∨ ∃ i, i < n ∧ S i = true ∧ f i = zmn f S n := by
  intro n
  induction n with
  | zero => exact Or.inl rfl
  | succ n ih =>
    by_cases hc : S n = true ∧ f n < zmn f S n
    · have e : zmn f S (n + 1) = f n := if_pos hc
      rw [e]
      exact Or.inr ⟨n, by omega, hc.1, rfl⟩
    · have e : zmn f S (n + 1) = zmn f S n := if_neg hc
      rw [e]
      rcases ih with q | ⟨i, hi, h1, h2⟩
      · exact Or.inl q
      · exact Or.inr ⟨i, by omega, h1, h2⟩
theorem z_nm1 (b : Nat) (hb : b < 2 ^ 31) : ¬ nI b ≤ (-1) := by
  intro q
  have := Int32.le_trans (nI_pos' hb) q
  exact absurd this (by decide)
theorem zmx_c {f : Nat → Nat} {S : Nat → Bool} (hf : ∀ d, f d < 100) : ∀ n, (zmx f S n = -1 ∧ ∀ i, i < n → S i = false) ∨ ∃ b, zmx f S n = nI b ∧ (∃ i, i < n ∧ S i = true ∧ f i = b) ∧ ∀ i, i < n → S i = true → f i ≤ b := by
  intro n
  induction n with
  | zero => exact Or.inl ⟨rfl, fun i hi => absurd hi (Nat.not_lt_zero i)⟩
  | succ n ih =>
    have hfn := hf n
    cases hS : S n with
    | false =>
      have e : zmx f S (n + 1) = zmx f S n := if_neg (fun z => by rw [hS] at z; exact nomatch z.1)
      rw [e]
      rcases ih with ⟨a, b⟩ | ⟨b, a, ⟨i, hi, h1, h2⟩, h3⟩
      · refine Or.inl ⟨a, fun i hi => ?_⟩
        rcases Nat.lt_or_ge i n with q | q
        · exact b i q
        · rw [show i = n by omega]; exact hS
      · refine Or.inr ⟨b, a, ⟨i, by omega, h1, h2⟩, fun j hj hs => ?_⟩
        rcases Nat.lt_or_ge j n with q | q
        · exact h3 j q hs
        · rw [show j = n by omega, hS] at hs; exact nomatch hs
    | true =>
      rcases ih with ⟨a, b⟩ | ⟨b, a, ⟨i, hi, h1, h2⟩, h3⟩
      · have e : zmx f S (n + 1) = nI (f n) := if_pos ⟨hS, by rw [a]; exact z_nm1 _ (by omega)⟩
        rw [e]
        refine Or.inr ⟨f n, rfl, ⟨n, by omega, hS, rfl⟩, fun j hj hs => ?_⟩
        rcases Nat.lt_or_ge j n with q | q
        · rw [b j q] at hs; exact nomatch hs
        · rw [show j = n by omega]; exact Nat.le_refl _
      · have hfi := hf i
        by_cases hle : f n ≤ b
        · have e : zmx f S (n + 1) = nI b := by
            rw [← a]
            exact if_neg (fun z => z.2 (by rw [a]; exact nI_le hle (by omega)))
          rw [e]
          refine Or.inr ⟨b, rfl, ⟨i, by omega, h1, h2⟩, fun j hj hs => ?_⟩
          rcases Nat.lt_or_ge j n with q | q
          · exact h3 j q hs
          · rw [show j = n by omega]; exact hle
        · have e : zmx f S (n + 1) = nI (f n) := if_pos ⟨hS, by rw [a]; exact nI_ge (by omega) (by omega)⟩
          rw [e]
          refine Or.inr ⟨f n, rfl, ⟨n, by omega, hS, rfl⟩, fun j hj hs => ?_⟩
          rcases Nat.lt_or_ge j n with q | q
          · have := h3 j q hs; omega
          · rw [show j = n by omega]; exact Nat.le_refl _
/-- columns (1) or rows (0) -/
def zcr (w : Nat) (cols : Bool) (d : Nat) : Nat := if cols then d % w else d / w
theorem p_box_L {p : Nat → Int32} {k w h : Nat} {sh : Nat → Nat} (H : Pic p k w h sh) (cols : Bool) {S : Nat → Bool} (hSn : ∀ i, S i = true → i < w * h) : ∀ (r n d : Nat), d + r = w * h → r < n → fX8_box_L10 n (zs S) (z01 cols) (nI (zmn (zcr w cols) S d)) (zmx (zcr w cols) S d) (nI d) p = some (nI (zmn (zcr w cols) S (w * h)), zmx (zcr w cols) S (w * h)) := by
  have h36 := H.n36
  have hw := H.ww
  have hb : ∀ i, zb (zs S) i = S i := zb_zs' (fun i hi => Nat.lt_of_lt_of_le (hSn i hi) h36)
  intro r
  induction r with
  | zero =>
    intro n d hd hn
    obtain ⟨n, rfl⟩ : ∃ m, n = m + 1 := ⟨n - 1, by omega⟩
    obtain rfl : d = w * h := by omega
    rw [fX8_box_L10_s, sh_b1_s H.dots, if_pos (nI_le (Nat.le_refl _) (by omega))]
  | succ r ih =>
    intro n d hd hn
    obtain ⟨n, rfl⟩ : ∃ m, n = m + 1 := ⟨n - 1, by omega⟩
    have hs := ih n (d + 1) (by omega) (by omega)
    have h6 := zmn6 (f := zcr w cols) (S := S) d
    rw [fX8_box_L10_s, sh_b1_s H.dots, if_neg (nI_ge (by omega) (by omega)), sh_b1_s (p_has _ (by omega)), hb, nI_1]
    cases hS : S d with
    | false =>
      rw [if_pos z01_f]
      rw [show zmn (zcr w cols) S (d + 1) = zmn (zcr w cols) S d from by simp [zmn, hS], show zmx (zcr w cols) S (d + 1) = zmx (zcr w cols) S d from by simp [zmx, hS]] at hs
      exact hs
    | true =>
      rw [if_neg z01_t]
      have hv : ∀ (K : Int32 → Option (Int32 × Int32)), (if z01 cols = 0 then sh_b1 (sh_div (nI d) (p 1)) K else sh_b1 (sh_rem (nI d) (p 1)) K) = K (nI (zcr w cols d)) := by
        intro K
        rw [H.wide]
        cases cols with
        | false => rw [if_pos z01_f, sh_b1_s (sh_div_n (by omega) hw.1 (by omega))]; rfl
        | true => rw [if_neg z01_t, sh_b1_s (sh_rem_n (by omega) hw.1 (by omega))]; rfl
      rw [hv]
      have hfd : zcr w cols d < 36 := by
        unfold zcr
        split
        · exact Nat.lt_of_le_of_lt (Nat.mod_le _ _) (by omega)
        · exact Nat.lt_of_le_of_lt (Nat.div_le_self _ _) (by omega)
      by_cases q1 : zmn (zcr w cols) S d ≤ zcr w cols d
      · have e1 : zmn (zcr w cols) S (d + 1) = zmn (zcr w cols) S d := if_neg (fun z => by have := z.2; omega)
        rw [if_pos (nI_le q1 (by omega))]
        rw [e1] at hs
        by_cases q2 : nI (zcr w cols d) ≤ zmx (zcr w cols) S d
        · have e2 : zmx (zcr w cols) S (d + 1) = zmx (zcr w cols) S d := if_neg (fun z => z.2 q2)
          rw [if_pos q2]
          rw [e2] at hs
          exact hs
        · have e2 : zmx (zcr w cols) S (d + 1) = nI (zcr w cols d) := if_pos ⟨hS, q2⟩
          rw [if_neg q2]
          rw [e2] at hs
          exact hs
      · have e1 : zmn (zcr w cols) S (d + 1) = zcr w cols d := if_pos ⟨hS, by omega⟩
        rw [if_neg (nI_ge (by omega) (by omega))]
        rw [e1] at hs
        by_cases q2 : nI (zcr w cols d) ≤ zmx (zcr w cols) S d
        · have e2 : zmx (zcr w cols) S (d + 1) = zmx (zcr w cols) S d := if_neg (fun z => z.2 q2)
          rw [if_pos q2]
          rw [e2] at hs
          exact hs
        · have e2 : zmx (zcr w cols) S (d + 1) = nI (zcr w cols d) := if_pos ⟨hS, q2⟩
          rw [if_neg q2]
          rw [e2] at hs
          exact hs
/-- least and greatest of a set -/
def IsBx (f : Nat → Nat) (S : Nat → Bool) (a b : Nat) : Prop := (∃ i, S i = true ∧ f i = a) ∧ (∃ i, S i = true ∧ f i = b) ∧ ∀ i, S i = true → a ≤ f i ∧ f i ≤ b
theorem p_box8 {p : Nat → Int32} {k w h : Nat} {sh : Nat → Nat} (H : Pic p k w h sh) (cols : Bool) {S : Nat → Bool} (hSn : ∀ i, S i = true → i < w * h) (hx : ∃ i, S i = true) : ∃ a b, IsBx (zcr w cols) S a b ∧ fX8_box p (zs S) (z01 cols) = some (nI (b - a + 1)) := by
  have h36 := H.n36
  have hw := H.ww
  have hh := H.hh
  have hq := p_box_L H cols hSn (w * h) sh_fu 0 (by omega) (by unfold sh_fu; omega)
  have hf6 : ∀ d, d < w * h → zcr w cols d < 6 := fun d hd => by
    unfold zcr
    split
    · exact Nat.lt_of_lt_of_le (Nat.mod_lt _ hw.1) hw.2
    · exact Nat.lt_of_lt_of_le (Nat.div_lt_of_lt_mul hd) hh.2
  obtain ⟨i0, hi0⟩ := hx
  have hmn : ∃ i, i < w * h ∧ S i = true ∧ zcr w cols i = zmn (zcr w cols) S (w * h) := by
    rcases zmn_mem (f := zcr w cols) (S := S) (w * h) with q | q
    · have h1 := zmn_le (f := zcr w cols) (S := S) (hSn i0 hi0) hi0
      have h2 := hf6 i0 (hSn i0 hi0)
      omega
    · exact q
  -- the greatest: outside the picture the function may be large, so cut it
  have hfc : ∃ b, zmx (zcr w cols) S (w * h) = nI b ∧ (∃ i, i < w * h ∧ S i = true ∧ zcr w cols i = b) ∧ ∀ i, i < w * h → S i = true → zcr w cols i ≤ b := by
    have hcut : ∀ n, n ≤ w * h → zmx (zcr w cols) S n = zmx (fun d => if d < w * h then zcr w cols d else 0) S n := by
      intro n
      induction n with
      | zero => intro _; rfl
      | succ n ih =>
        intro hn
        have ih := ih (by omega)
        unfold zmx
        rw [ih, if_pos (show n < w * h by omega)]
    rw [hcut (w * h) (Nat.le_refl _)]
    rcases zmx_c (f := fun d => if d < w * h then zcr w cols d else 0) (S := S) (fun d => by
      show (if d < w * h then zcr w cols d else 0) < 100
      split
      · rename_i hd; have := hf6 d hd; omega
      · omega) (w * h) with ⟨-, q⟩ | ⟨b, q1, ⟨i, hi, h1, h2⟩, h3⟩
    · rw [q i0 (hSn i0 hi0)] at hi0; exact nomatch hi0
    · refine ⟨b, q1, ⟨i, hi, h1, ?_⟩, fun j hj hs => ?_⟩
      · rw [if_pos hi] at h2; exact h2
      · have := h3 j hj hs
        rw [if_pos hj] at this
        exact this
  obtain ⟨b, e1, ⟨j, hj, h1, h2⟩, h3⟩ := hfc
  obtain ⟨i, hi, g1, g2⟩ := hmn
  refine ⟨zmn (zcr w cols) S (w * h), b, ⟨⟨i, g1, g2⟩, ⟨j, h1, h2⟩, fun x hx => ⟨zmn_le (hSn x hx) hx, h3 x (hSn x hx) hx⟩⟩, ?_⟩
  have hab : zmn (zcr w cols) S (w * h) ≤ b := by rw [← g2]; exact h3 i hi g1
  unfold fX8_box
  rw [show (6 : Int32) = nI (zmn (zcr w cols) S 0) from rfl, show (-1 : Int32) = zmx (zcr w cols) S 0 from rfl, show (0 : Int32) = nI 0 from rfl, sh_b2_s hq, e1, pk_sub hab, nI_1]
/-! touched columns and rows -/
theorem zadj_near {k w a b : Nat} (h : zadj k w a b = true) (cols : Bool) : zcr w cols b ≤ zcr w cols a + 1 ∧ zcr w cols a ≤ zcr w cols b + 1 := by
  unfold zadj at h
  simp only [decide_eq_true_eq] at h
  have h2 : zsq w a b ≤ 2 := by rcases h with h | ⟨h, -⟩ <;> omega
  unfold zsq at h2
  have key : ∀ x y : Int, x * x + y * y ≤ 2 → (-1 ≤ x ∧ x ≤ 1) ∧ (-1 ≤ y ∧ y ≤ 1) := by
    intro x y hxy
    rw [← Int.natAbs_mul_self' x, ← Int.natAbs_mul_self' y] at hxy
    have hn : x.natAbs * x.natAbs + y.natAbs * y.natAbs ≤ 2 := by omega
    have hx : x.natAbs < 2 := by
      refine Nat.lt_of_not_le fun q => ?_
      have : 2 * 2 ≤ x.natAbs * x.natAbs := Nat.mul_le_mul q q
      omega
    have hy : y.natAbs < 2 := by
      refine Nat.lt_of_not_le fun q => ?_
      have : 2 * 2 ≤ y.natAbs * y.natAbs := Nat.mul_le_mul q q
      omega
    omega
  obtain ⟨hr, hc⟩ := key _ _ h2
  unfold zcr
  cases cols with
  | true => simp only [if_true]; omega
  | false => simp only [Bool.false_eq_true, if_false]; omega
def zto (f : Nat → Nat) (S : Nat → Bool) (j : Nat) : Bool := decide (0 < fb_ct (fun i => S i && decide (f i = j)) 36)
theorem zto_iff {f : Nat → Nat} {S : Nat → Bool} (hS : ∀ i, S i = true → i < 36) {j : Nat} : zto f S j = true ↔ ∃ i, S i = true ∧ f i = j := by
  unfold zto
  rw [decide_eq_true_eq, fb_ct_pos]
  constructor
  · rintro ⟨i, -, h⟩
    rw [Bool.and_eq_true, decide_eq_true_eq] at h
    exact ⟨i, h⟩
  · rintro ⟨i, h1, h2⟩
    exact ⟨i, hS i h1, by rw [Bool.and_eq_true, decide_eq_true_eq]; exact ⟨h1, h2⟩⟩
/-- a part touches all between its ends -/
theorem zto_all {k w : Nat} {T : Nat → Bool} {d a b : Nat} (cols : Bool) (hS : ∀ i, zp k w T d i = true → i < 36) (hB : IsBx (zcr w cols) (zp k w T d) a b) (j : Nat) : zto (zcr w cols) (zp k w T d) j = decide (a ≤ j ∧ j ≤ b) := by
  apply Bool.eq_iff_iff.mpr
  rw [zto_iff hS, decide_eq_true_eq]
  obtain ⟨⟨x, hx, rfl⟩, ⟨y, hy, rfl⟩, hall⟩ := hB
  constructor
  · rintro ⟨i, hi, rfl⟩
    exact hall i hi
  · rintro ⟨h1, h2⟩
    refine Classical.byContradiction fun hno => ?_
    have hlt : zcr w cols x < j := Nat.lt_of_le_of_ne h1 (fun q => hno ⟨x, hx, q⟩)
    have hy2 : zp k w T x y = true := by rw [← zp_eq hx]; exact hy
    have := zc_ind (zp_iff.mp hy2) (fun i => zp k w T x i = true ∧ zcr w cols i < j) ⟨zp_self (zp_sub hx), hlt⟩ (fun u v hu huT hv huv => by
      have hv2 : zp k w T x v = true := zp_iff.mpr (zc_step (zp_iff.mp hu.1) hv huv)
      refine ⟨hv2, ?_⟩
      have hn := (zadj_near huv cols).1
      have hne : zcr w cols v ≠ j := fun q => hno ⟨v, by rw [zp_eq hx]; exact hv2, q⟩
      have := hu.2
      omega)
    have := this.2
    omega
theorem ct_iv {a b : Nat} : ∀ {N : Nat}, a ≤ b → b < N → fb_ct (fun j => decide (a ≤ j ∧ j ≤ b)) N = b - a + 1 := by
  intro N hab hb
  have e1 : fb_ct (fun j => decide (a ≤ j ∧ j ≤ b)) N = fb_ct (fun j => decide (a ≤ j ∧ j ≤ b)) (b + 1) := ct_tail (by omega) (fun j h1 _ => decide_eq_false (by omega))
  have e2 := fb_ct_split (fun j => decide (a ≤ j ∧ j ≤ b)) a (b + 1 - a)
  rw [show a + (b + 1 - a) = b + 1 by omega] at e2
  have e3 : fb_ct (fun j => decide (a ≤ j ∧ j ≤ b)) a = 0 := fb_ct_zero.mpr (fun j hj => decide_eq_false (by omega))
  have e4 : fb_ct (fun k => decide (a ≤ a + k ∧ a + k ≤ b)) (b + 1 - a) = b + 1 - a := fb_ct_all.mpr (fun j hj => decide_eq_true (by omega))
  rw [e1, e2, e3, e4]
  omega
theorem col_all : ∀ w, w < 7 → ∀ h, h < 7 → 1 ≤ w → 1 ≤ h → ∀ j, j < w → sh_lsl (zs (fun i => decide (i < w * h) && decide (i % w = 0))) (nI j) = zs (fun i => decide (i < w * h) && decide (i % w = j)) := by decide +kernel
theorem row_all : ∀ w, w < 7 → ∀ h, h < 7 → 1 ≤ w → 1 ≤ h → ∀ j, j < h → sh_lsl ((sh_lsl 1 (nI w)) - 1) (nI j * nI w) = zs (fun i => decide (i < w * h) && decide (i / w = j)) := by decide +kernel
theorem p_colsOf_L {gw gd gh : Int32} {ga gl gr : Int64} {k w h : Nat} (H : Lay gw gd gh ga gl gr k w h) {S : Nat → Bool} (hS : ∀ i, S i = true → i < w * h) : ∀ (r n j : Nat), j + r = w → r < n → fX1_columnsOf_L5 n (zs S) (nI (fb_ct (zto (zcr w true) S) j)) (nI j) gd gl = some (nI (fb_ct (zto (zcr w true) S) w)) := by
  obtain ⟨rfl, rfl, rfl, rfl, rfl, rfl, hk, hw, hh⟩ := H
  have h36 := z36 hw hh
  have hS36 : ∀ i, S i = true → i < 36 := fun i hi => Nat.lt_of_lt_of_le (hS i hi) h36
  intro r
  induction r with
  | zero =>
    intro n j hj hn
    obtain ⟨n, rfl⟩ : ∃ m, n = m + 1 := ⟨n - 1, by omega⟩
    obtain rfl : j = w := by omega
    rw [fX1_columnsOf_L5_s, if_pos (nI_le (Nat.le_refl _) (by omega))]
  | succ r ih =>
    intro n j hj hn
    obtain ⟨n, rfl⟩ : ∃ m, n = m + 1 := ⟨n - 1, by omega⟩
    have hs := ih n (j + 1) (by omega) (by omega)
    rw [fb_ct_succ] at hs
    rw [fX1_columnsOf_L5_s, if_neg (nI_ge (by omega) (by omega)), col_all w (by omega) h (by omega) hw.1 hh.1 j (by omega), zs_and, nI_1]
    have hlt : ∀ i, (S i && (decide (i < w * h) && decide (i % w = j))) = true → i < 36 := fun i hi => by rw [Bool.and_eq_true] at hi; exact hS36 i hi.1
    cases hz : zto (zcr w true) S j with
    | false =>
      rw [if_pos ((zs_0 hlt).mpr (fun i => Bool.eq_false_iff.mpr (fun q => by
        simp only [Bool.and_eq_true, decide_eq_true_eq] at q
        have := (zto_iff hS36 (f := zcr w true)).mpr ⟨i, q.1, q.2.2⟩
        rw [hz] at this
        exact nomatch this)))]
      rw [hz] at hs
      exact hs
    | true =>
      rw [if_neg (fun q => by
        obtain ⟨i, h1, h2⟩ := (zto_iff hS36).mp hz
        have := (zs_0 hlt).mp q i
        rw [h1, decide_eq_true (hS i h1), decide_eq_true (show i % w = j from h2)] at this
        exact nomatch this), nI_1]
      rw [hz] at hs
      exact hs
theorem p_rowsOf_L {gw gd gh : Int32} {ga gl gr : Int64} {k w h : Nat} (H : Lay gw gd gh ga gl gr k w h) {S : Nat → Bool} (hS : ∀ i, S i = true → i < w * h) : ∀ (r n j : Nat), j + r = h → r < n → fX1_rowsOf_L5 n (zs S) (nI (fb_ct (zto (zcr w false) S) j)) (nI j) gd gh = some (nI (fb_ct (zto (zcr w false) S) h)) := by
  obtain ⟨rfl, rfl, rfl, rfl, rfl, rfl, hk, hw, hh⟩ := H
  have h36 := z36 hw hh
  have hS36 : ∀ i, S i = true → i < 36 := fun i hi => Nat.lt_of_lt_of_le (hS i hi) h36
  intro r
  induction r with
  | zero =>
    intro n j hj hn
    obtain ⟨n, rfl⟩ : ∃ m, n = m + 1 := ⟨n - 1, by omega⟩
    obtain rfl : j = h := by omega
    rw [fX1_rowsOf_L5_s, if_pos (nI_le (Nat.le_refl _) (by omega))]
  | succ r ih =>
    intro n j hj hn
    obtain ⟨n, rfl⟩ : ∃ m, n = m + 1 := ⟨n - 1, by omega⟩
    have hs := ih n (j + 1) (by omega) (by omega)
    rw [fb_ct_succ] at hs
    have hr : fX1_row (nI w) (nI j) = some (zs (fun i => decide (i < w * h) && decide (i / w = j))) := by
      unfold fX1_row
      rw [row_all w (by omega) h (by omega) hw.1 hh.1 j (by omega)]
    rw [fX1_rowsOf_L5_s, if_neg (nI_ge (by omega) (by omega)), sh_b1_s hr, zs_and, nI_1]
    have hlt : ∀ i, (S i && (decide (i < w * h) && decide (i / w = j))) = true → i < 36 := fun i hi => by rw [Bool.and_eq_true] at hi; exact hS36 i hi.1
    cases hz : zto (zcr w false) S j with
    | false =>
      rw [if_pos ((zs_0 hlt).mpr (fun i => Bool.eq_false_iff.mpr (fun q => by
        simp only [Bool.and_eq_true, decide_eq_true_eq] at q
        have := (zto_iff hS36 (f := zcr w false)).mpr ⟨i, q.1, q.2.2⟩
        rw [hz] at this
        exact nomatch this)))]
      rw [hz] at hs
      exact hs
    | true =>
      rw [if_neg (fun q => by
        obtain ⟨i, h1, h2⟩ := (zto_iff hS36).mp hz
        have := (zs_0 hlt).mp q i
        rw [h1, decide_eq_true (hS i h1), decide_eq_true (show i / w = j from h2)] at this
        exact nomatch this), nI_1]
      rw [hz] at hs
      exact hs
/-- both sides: the box of a part -/
theorem p_cols {p : Nat → Int32} {gw gd gh : Int32} {ga gl gr : Int64} {k w h K : Nat} {sh : Nat → Nat} (H : Pic p k w h sh) (H2 : Lay gw gd gh ga gl gr k w h) {T : Nat → Bool} (hT : ∀ i, T i = true → i < w * h) {d : Nat} (hd : T d = true) : ∃ c, fX8_box p (zs (zp K w T d)) 1 = some (nI c) ∧ fX1_columnsOf gd gl (zs (zp K w T d)) = some (nI c) ∧ c ≤ 6 := by
  have h36 := H.n36
  have hw := H.ww
  have hS : ∀ i, zp K w T d i = true → i < w * h := fun i hi => hT i (zp_sub hi)
  have hS36 : ∀ i, zp K w T d i = true → i < 36 := fun i hi => Nat.lt_of_lt_of_le (hS i hi) h36
  obtain ⟨a, b, hB, e⟩ := p_box8 H true hS ⟨d, zp_self hd⟩
  have hbw : b < w := by
    obtain ⟨-, ⟨i, -, rfl⟩, -⟩ := hB
    exact Nat.mod_lt _ hw.1
  have hab : a ≤ b := by
    obtain ⟨⟨i, hi, rfl⟩, -, hall⟩ := hB
    exact (hall i hi).2
  refine ⟨b - a + 1, e, ?_, by omega⟩
  unfold fX1_columnsOf
  have hq := p_colsOf_L H2 hS w sh_fu 0 (by omega) (by unfold sh_fu; omega)
  rw [show fb_ct (zto (zcr w true) (zp K w T d)) 0 = 0 from rfl, nI_0, show fb_ct (zto (zcr w true) (zp K w T d)) w = fb_ct (fun j => decide (a ≤ j ∧ j ≤ b)) w from fb_ct_cong (fun j _ => zto_all true hS36 hB j), ct_iv hab hbw] at hq
  rw [sh_b1_s hq]
theorem p_rows {p : Nat → Int32} {gw gd gh : Int32} {ga gl gr : Int64} {k w h K : Nat} {sh : Nat → Nat} (H : Pic p k w h sh) (H2 : Lay gw gd gh ga gl gr k w h) {T : Nat → Bool} (hT : ∀ i, T i = true → i < w * h) {d : Nat} (hd : T d = true) : ∃ c, fX8_box p (zs (zp K w T d)) 0 = some (nI c) ∧ fX1_rowsOf gd gh (zs (zp K w T d)) = some (nI c) ∧ c ≤ 6 := by
  have h36 := H.n36
  have hw := H.ww
  have hh := H.hh
  have hS : ∀ i, zp K w T d i = true → i < w * h := fun i hi => hT i (zp_sub hi)
  have hS36 : ∀ i, zp K w T d i = true → i < 36 := fun i hi => Nat.lt_of_lt_of_le (hS i hi) h36
  obtain ⟨a, b, hB, e⟩ := p_box8 H false hS ⟨d, zp_self hd⟩
  have hbh : b < h := by
    obtain ⟨-, ⟨i, hi, rfl⟩, -⟩ := hB
    exact Nat.div_lt_of_lt_mul (hS i hi)
  have hab : a ≤ b := by
    obtain ⟨⟨i, hi, rfl⟩, -, hall⟩ := hB
    exact (hall i hi).2
  refine ⟨b - a + 1, e, ?_, by omega⟩
  unfold fX1_rowsOf
  have hq := p_rowsOf_L H2 hS h sh_fu 0 (by omega) (by unfold sh_fu; omega)
  rw [show fb_ct (zto (zcr w false) (zp K w T d)) 0 = 0 from rfl, nI_0, show fb_ct (zto (zcr w false) (zp K w T d)) h = fb_ct (fun j => decide (a ≤ j ∧ j ≤ b)) h from fb_ct_cong (fun j _ => zto_all false hS36 hB j), ct_iv hab hbh] at hq
  rw [sh_b1_s hq]
