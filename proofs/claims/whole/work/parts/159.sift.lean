/-! sieves -/
def zbx (w h : Nat) (cols : Bool) (S : Nat → Bool) : Nat := fb_ct (zto (zcr w cols) S) (if cols then w else h)
theorem p_boxc8 {p : Nat → Int32} {k w h K : Nat} {sh : Nat → Nat} (H : Pic p k w h sh) (cols : Bool) {T : Nat → Bool} (hT : ∀ i, T i = true → i < w * h) {d : Nat} (hd : T d = true) : fX8_box p (zs (zp K w T d)) (z01 cols) = some (nI (zbx w h cols (zp K w T d))) := by
  have h36 := H.n36
  have hw := H.ww
  have hh := H.hh
  have hS : ∀ i, zp K w T d i = true → i < w * h := fun i hi => hT i (zp_sub hi)
  have hS36 : ∀ i, zp K w T d i = true → i < 36 := fun i hi => Nat.lt_of_lt_of_le (hS i hi) h36
  obtain ⟨a, b, hB, e⟩ := p_box8 H cols hS ⟨d, zp_self hd⟩
  have hbw : b < (if cols then w else h) := by
    obtain ⟨-, ⟨i, hi, rfl⟩, -⟩ := hB
    cases cols with
    | true => exact Nat.mod_lt _ hw.1
    | false => exact Nat.div_lt_of_lt_mul (hS i hi)
  have hab : a ≤ b := by
    obtain ⟨⟨i, hi, rfl⟩, -, hall⟩ := hB
    exact (hall i hi).2
  rw [e]
  unfold zbx
  rw [show fb_ct (zto (zcr w cols) (zp K w T d)) (if cols then w else h) = fb_ct (fun j => decide (a ≤ j ∧ j ≤ b)) (if cols then w else h) from fb_ct_cong (fun j _ => zto_all cols hS36 hB j), ct_iv hab hbw]
theorem p_cols7 {gw gd gh : Int32} {ga gl gr : Int64} {k w h : Nat} (H2 : Lay gw gd gh ga gl gr k w h) {S : Nat → Bool} (hS : ∀ i, S i = true → i < w * h) : fX1_columnsOf gd gl (zs S) = some (nI (zbx w h true S)) := by
  unfold fX1_columnsOf
  have hw := H2.2.2.2.2.2.2.2.1
  have hq := p_colsOf_L H2 hS w sh_fu 0 (by omega) (by unfold sh_fu; omega)
  rw [show fb_ct (zto (zcr w true) S) 0 = 0 from rfl, nI_0] at hq
  rw [sh_b1_s hq]; rfl
theorem p_rows7 {gw gd gh : Int32} {ga gl gr : Int64} {k w h : Nat} (H2 : Lay gw gd gh ga gl gr k w h) {S : Nat → Bool} (hS : ∀ i, S i = true → i < w * h) : fX1_rowsOf gd gh (zs S) = some (nI (zbx w h false S)) := by
  unfold fX1_rowsOf
  have hw := H2.2.2.2.2.2.2.2.2
  have hq := p_rowsOf_L H2 hS h sh_fu 0 (by omega) (by unfold sh_fu; omega)
  rw [show fb_ct (zto (zcr w false) S) 0 = 0 from rfl, nI_0] at hq
  rw [sh_b1_s hq]; rfl
theorem zbx_le {w h : Nat} (hw : w ≤ 6) (hh : h ≤ 6) (cols : Bool) (S : Nat → Bool) : zbx w h cols S ≤ 6 := by
  unfold zbx
  refine Nat.le_trans (fb_ct_le _ _) ?_
  cases cols <;> simp [hw, hh]
def zbg (w h : Nat) (kd : Bool) (m : Nat) (S : Nat → Bool) : Bool := if kd then decide (m ≤ zbx w h true S) || decide (m ≤ zbx w h false S) else decide (m ≤ fb_ct S 36)
theorem p_stays8 {p : Nat → Int32} {k w h K : Nat} {sh : Nat → Nat} (H : Pic p k w h sh) (kd : Bool) {m : Nat} (hm : m ≤ 36) {T : Nat → Bool} (hT : ∀ i, T i = true → i < w * h) {d : Nat} (hd : T d = true) : fX8_stays p (zs (zp K w T d)) (z01 kd) (nI m) = some (z01 (zbg w h kd m (zp K w T d))) := by
  unfold fX8_stays zbg
  have hw := H.ww
  have hh := H.hh
  cases kd with
  | false =>
    rw [if_pos z01_f, sh_b1_s (p_many _), zs_n]
    have h1 := fb_ct_le (zp K w T d) 36
    generalize fb_ct (zp K w T d) 36 = c at *
    by_cases q : m ≤ c
    · rw [if_neg (nI_nlt q (by omega))]; simp [q, z01]
    · rw [if_pos (nI_lt (by omega) (by omega))]; simp [q, z01]
  | true =>
    have b1 := p_boxc8 (K := K) H true hT hd
    have b2 := p_boxc8 (K := K) H false hT hd
    rw [show z01 true = 1 from rfl] at b1
    rw [show z01 false = 0 from rfl] at b2
    have l1 := zbx_le hw.2 hh.2 true (zp K w T d)
    have l2 := zbx_le hw.2 hh.2 false (zp K w T d)
    rw [if_neg z01_t, sh_b1_s b1]
    generalize zbx w h true (zp K w T d) = c1 at *
    generalize zbx w h false (zp K w T d) = c2 at *
    by_cases q1 : m ≤ c1
    · rw [if_pos (nI_le q1 (by omega))]; simp [q1, z01]
    · rw [if_neg (nI_ge (by omega) (by omega)), sh_b1_s b2]
      by_cases q : m ≤ c2
      · rw [if_neg (nI_nlt q (by omega))]; simp [q, q1, z01]
      · rw [if_pos (nI_lt (by omega) (by omega))]; simp [q, q1, z01]
theorem p_isBig7 {gw gd gh : Int32} {ga gl gr : Int64} {k w h : Nat} (H : Lay gw gd gh ga gl gr k w h) (kd : Bool) {m : Nat} (hm : m ≤ 36) {S : Nat → Bool} (hS : ∀ i, S i = true → i < w * h) : fX2_isBig gd gh gl (zs S) (z01 kd) (nI m) = some (z01 (zbg w h kd m S)) := by
  unfold fX2_isBig zbg
  have hw := H.2.2.2.2.2.2.2.1
  have hh := H.2.2.2.2.2.2.2.2
  cases kd with
  | false =>
    rw [if_pos z01_f, sh_b1_s (p_bcs _)]
    have h1 := fb_ct_le S 36
    generalize fb_ct S 36 = c at *
    by_cases q : m ≤ c
    · rw [if_neg (nI_nlt q (by omega))]; simp [q, z01]
    · rw [if_pos (nI_lt (by omega) (by omega))]; simp [q, z01]
  | true =>
    have b1 := p_cols7 H hS
    have b2 := p_rows7 H hS
    have l1 := zbx_le hw.2 hh.2 true S
    have l2 := zbx_le hw.2 hh.2 false S
    rw [if_neg z01_t, sh_b1_s b1]
    generalize zbx w h true S = c1 at *
    generalize zbx w h false S = c2 at *
    by_cases q1 : m ≤ c1
    · rw [if_pos (nI_le q1 (by omega))]; simp [q1, z01]
    · rw [if_neg (nI_ge (by omega) (by omega)), sh_b1_s b2]
      by_cases q : m ≤ c2
      · rw [if_neg (nI_nlt q (by omega))]; simp [q, q1, z01]
      · rw [if_pos (nI_lt (by omega) (by omega))]; simp [q, q1, z01]
theorem zbg_mono {w h : Nat} {kd : Bool} {m : Nat} {S T : Nat → Bool} (hT : ∀ i, T i = true → i < 36) (hST : ∀ i, S i = true → T i = true) (hb : zbg w h kd m S = true) : zbg w h kd m T = true := by
  have hS : ∀ i, S i = true → i < 36 := fun i hi => hT i (hST i hi)
  have hx : ∀ cols, zbx w h cols S ≤ zbx w h cols T := fun cols => fb_ct_sub (fun j _ hj => by
    obtain ⟨i, h1, h2⟩ := (zto_iff hS).mp hj
    exact (zto_iff hT).mpr ⟨i, hST i h1, h2⟩)
  unfold zbg at hb ⊢
  cases kd with
  | false =>
    have h1 : fb_ct S 36 ≤ fb_ct T 36 := fb_ct_sub (fun j _ hj => hST j hj)
    simp at hb ⊢
    exact Nat.le_trans hb h1
  | true =>
    have h1 := hx true
    have h2 := hx false
    simp at hb ⊢
    rcases hb with hb | hb
    · exact Or.inl (Nat.le_trans hb h1)
    · exact Or.inr (Nat.le_trans hb h2)
/-- the greatest level below t at which it holds -/
def zfb (q : Nat → Bool) : Nat → Option Nat
  | 0 => none
  | t + 1 => if q t then some t else zfb q t
theorem zfb_none {q : Nat → Bool} : ∀ {t : Nat}, zfb q t = none → ∀ u, u < t → q u = false := by
  intro t
  induction t with
  | zero => intro _ u hu; omega
  | succ t ih =>
    intro e u hu
    unfold zfb at e
    cases hq : q t with
    | true => rw [hq, if_pos rfl] at e; exact nomatch e
    | false =>
      rw [hq, if_neg (by decide)] at e
      rcases Nat.lt_or_ge u t with z | z
      · exact ih e u z
      · rw [show u = t by omega]; exact hq
theorem zfb_some {q : Nat → Bool} {s : Nat} : ∀ {t : Nat}, zfb q t = some s → s < t ∧ q s = true ∧ ∀ u, s < u → u < t → q u = false := by
  intro t
  induction t with
  | zero => intro e; exact nomatch e
  | succ t ih =>
    intro e
    unfold zfb at e
    cases hq : q t with
    | true =>
      rw [hq, if_pos rfl] at e
      cases e
      exact ⟨by omega, hq, fun u h1 h2 => by omega⟩
    | false =>
      rw [hq, if_neg (by decide)] at e
      obtain ⟨a, b, c⟩ := ih e
      refine ⟨by omega, b, fun u h1 h2 => ?_⟩
      rcases Nat.lt_or_ge u t with z | z
      · exact c u h1 z
      · rw [show u = t by omega]; exact hq
noncomputable def zsf (k w h : Nat) (sh : Nat → Nat) (kd : Bool) (m m0 d : Nat) : Nat := (zfb (fun t => zbg w h kd m (zC k w h sh t d)) (sh d + 1)).getD m0
/-- the least shade of all -/
def IsM0 (n : Nat) (sh : Nat → Nat) (m0 : Nat) : Prop := (∀ i, i < n → m0 ≤ sh i) ∧ ∃ i, i < n ∧ sh i = m0
theorem ex_m0 {n : Nat} {sh : Nat → Nat} (hn : 0 < n) : ∃ m0, IsM0 n sh m0 := by
  obtain ⟨l, e, a, b, c, d, f⟩ := ex_hd (n := n) (sh := sh) (S := fun i => decide (i < n)) (fun i hi => of_decide_eq_true hi) ⟨0, decide_eq_true hn⟩
  exact ⟨l, fun i hi => f i (decide_eq_true hi), e, a, c⟩
theorem up_m0 {n : Nat} {sh : Nat → Nat} {m0 t : Nat} (hm : IsM0 n sh m0) (ht : t ≤ m0) : up n sh t = up n sh m0 := by
  funext i
  apply Bool.eq_iff_iff.mpr
  exact ⟨fun q => up_mk (up_lt q) (hm.1 i (up_lt q)), fun q => up_mono ht i q⟩
theorem zsf_iff {k w h : Nat} {sh : Nat → Nat} {kd : Bool} {m m0 d t : Nat} (hn : w * h ≤ 36) (hm : IsM0 (w * h) sh m0) (hd : d < w * h) : t ≤ zsf k w h sh kd m m0 d ↔ t ≤ sh d ∧ (t ≤ m0 ∨ zbg w h kd m (zC k w h sh t d) = true) := by
  unfold zsf
  have h36 : ∀ t i, zC k w h sh t d i = true → i < 36 := fun t i hi => Nat.lt_of_lt_of_le (zC_lt hi) hn
  have hmd := hm.1 d hd
  have hlow : ∀ t, t ≤ m0 → zC k w h sh t d = zC k w h sh m0 d := fun t ht => by unfold zC; rw [up_m0 hm ht]
  cases hz : zfb (fun t => zbg w h kd m (zC k w h sh t d)) (sh d + 1) with
  | none =>
    have hf := zfb_none hz
    show t ≤ m0 ↔ _
    constructor
    · exact fun ht => ⟨by omega, Or.inl ht⟩
    · rintro ⟨a, b | b⟩
      · exact b
      · have : zbg w h kd m (zC k w h sh t d) = false := hf t (by omega)
        rw [this] at b
        exact nomatch b
  | some s =>
    obtain ⟨s1, s2, s3⟩ := zfb_some hz
    have s2 : zbg w h kd m (zC k w h sh s d) = true := s2
    show t ≤ s ↔ _
    constructor
    · exact fun ht => ⟨by omega, Or.inr (zbg_mono (h36 t) (fun i hi => zC_mono ht hi) s2)⟩
    · rintro ⟨a, b | b⟩
      · refine Nat.le_of_not_lt fun q => ?_
        have h1 : zbg w h kd m (zC k w h sh m0 d) = false := s3 m0 (by omega) (by omega)
        rw [← hlow s (by omega), s2] at h1
        exact nomatch h1
      · refine Nat.le_of_not_lt fun q => ?_
        have h1 : zbg w h kd m (zC k w h sh t d) = false := s3 t q (by omega)
        rw [b] at h1
        exact nomatch h1
theorem zsf_le {k w h : Nat} {sh : Nat → Nat} {kd : Bool} {m m0 d : Nat} (hn : w * h ≤ 36) (hm : IsM0 (w * h) sh m0) (hd : d < w * h) : zsf k w h sh kd m m0 d ≤ sh d := ((zsf_iff hn hm hd).mp (Nat.le_refl _)).1
/-! the reference -/
theorem p_sifted_L {p : Nat → Int32} {k w h : Nat} {sh : Nat → Nat} (H : Pic p k w h sh) (kd : Bool) {m : Nat} (hm : m ≤ 36) {d : Nat} (hd : d < w * h) : ∀ (t n : Nat), t ≤ sh d + 1 → t < n → (∀ u, t ≤ u → u ≤ sh d → zbg w h kd m (zC k w h sh u d) = false) → fX8_sifted_L7 n (nI d) (z01 kd) (nI m) (nI t - 1) p = some (match zfb (fun t => zbg w h kd m (zC k w h sh t d)) t with | none => .inr () | some s => .inl (nI s)) := by
  have h36 := H.n36
  have h9 := H.sh9 hd
  intro t
  induction t with
  | zero =>
    intro n _ hn _
    obtain ⟨n, rfl⟩ : ∃ m, n = m + 1 := ⟨n - 1, by omega⟩
    rw [fX8_sifted_L7_s, if_pos z_neg1]; rfl
  | succ t ih =>
    intro n ht hn hno
    obtain ⟨n, rfl⟩ : ∃ m, n = m + 1 := ⟨n - 1, by omega⟩
    rw [fX8_sifted_L7_s, nI_pred, if_neg (nI_pos (by omega)), sh_b1_s (p_partC H (by omega) (by omega)), show fX8_stays p (zs (zC k w h sh t d)) (z01 kd) (nI m) = some (z01 (zbg w h kd m (zC k w h sh t d))) from p_stays8 H kd hm (fun i hi => up_lt hi) (up_mk hd (by omega)), sh_b1_s rfl]
    unfold zfb
    cases hq : zbg w h kd m (zC k w h sh t d) with
    | false =>
      rw [if_pos z01_f, if_neg (by decide), z_m1]
      refine ih n (by omega) (by omega) (fun u h1 h2 => ?_)
      rcases Nat.lt_or_ge t u with z | z
      · exact hno u z h2
      · rw [show u = t by omega]; exact hq
    | true =>
      have hself := zC_self (k := k) hd (show t ≤ sh d by omega)
      obtain ⟨l, e, he⟩ := ex_hd (n := w * h) (sh := sh) (S := zC k w h sh t d) (fun i hi => zC_lt hi) ⟨d, hself⟩
      have hlt : t ≤ l := by rw [← he.2.2.1]; exact zC_le he.2.1
      have hld := he.2.2.2.2 d hself
      have hf := zC_flat (k := k) hd hlt hld he.2.2.2.2
      have hlq : l = t := by
        rcases Nat.lt_or_ge t l with z | z
        · have := hno l z hld
          rw [← hf, hq] at this
          exact nomatch this
        · omega
      rw [if_neg z01_t, if_pos rfl, sh_b1_s (p_level8 H he), hlq]
theorem p_levelAll {p : Nat → Int32} {k w h : Nat} {sh : Nat → Nat} (H : Pic p k w h sh) {m0 : Nat} (hm : IsM0 (w * h) sh m0) : fX8_level p (-1) = some (nI m0) := by
  have h36 := H.n36
  obtain ⟨l, e, a, b, c, d, f⟩ := ex_hd (n := w * h) (sh := sh) (S := fun i => decide (i < w * h)) (fun i hi => of_decide_eq_true hi) ⟨0, decide_eq_true H.n0⟩
  have hl : l = m0 := by
    obtain ⟨h1, i, h2, h3⟩ := hm
    have h4 := h1 e a
    have h5 := f i (decide_eq_true h2)
    omega
  rw [p_levelz H (fun i => decide (i < w * h)) (-1) (fun i hi => by rw [zb_m1, decide_eq_true (show i < 64 by omega), decide_eq_true hi]), zlv_is ⟨a, b, c, d, f⟩ (fun d hd => H.sh9 hd), hl]
theorem p_sifted {p : Nat → Int32} {k w h : Nat} {sh : Nat → Nat} (H : Pic p k w h sh) (kd : Bool) {m m0 : Nat} (hm : m ≤ 36) (h0 : IsM0 (w * h) sh m0) {d : Nat} (hd : d < w * h) : fX8_sifted p (nI d) (z01 kd) (nI m) = some (nI (zsf k w h sh kd m m0 d)) := by
  unfold fX8_sifted
  have h9 := H.sh9 hd
  have hq := p_sifted_L H kd hm hd (sh d + 1) sh_fu (Nat.le_refl _) (by unfold sh_fu; omega) (fun u h1 h2 => by omega)
  rw [nI_pred] at hq
  rw [sh_b1_s (H.shade hd)]
  unfold zsf
  cases hz : zfb (fun t => zbg w h kd m (zC k w h sh t d)) (sh d + 1) with
  | none => rw [hz] at hq; rw [sh_bs_r hq, sh_b1_s (p_levelAll H h0)]; rfl
  | some s => rw [hz] at hq; rw [sh_bs_l hq]; rfl
/-! the class -/
theorem p_bigParts_L {gw gd gh : Int32} {ga gl gr : Int64} {k w h : Nat} (H : Lay gw gd gh ga gl gr k w h) (kd : Bool) {m : Nat} (hm : m ≤ 36) {S : Nat → Bool} (hS : ∀ i, S i = true → i < w * h) : ∀ (r n c : Nat) (R : Nat → Bool), c + r = 36 → fb_ct R 36 ≤ r → r < n → (∀ i, R i = true → S i = true ∧ ∀ j, zp k w S i j = true → R j = true) → fX2_bigParts_L23 n (zs S) (z01 kd) (nI m) (zs (fun i => S i && (!R i && zbg w h kd m (zp k w S i)))) (zs R) (nI c) gw gd gh gl gr = some (zs (fun i => S i && zbg w h kd m (zp k w S i))) := by
  have h36 : w * h ≤ 36 := Nat.mul_le_mul H.2.2.2.2.2.2.2.1.2 H.2.2.2.2.2.2.2.2.2
  have hend : ∀ R : Nat → Bool, (∀ i, i < 36 → R i = false) → zs (fun i => S i && (!R i && zbg w h kd m (zp k w S i))) = zs (fun i => S i && zbg w h kd m (zp k w S i)) := fun R hR => zs_cong (fun i hi => by rw [hR i hi]; rfl)
  intro r
  induction r with
  | zero =>
    intro n c R hc hr hn hR
    obtain ⟨n, rfl⟩ : ∃ m, n = m + 1 := ⟨n - 1, by omega⟩
    obtain rfl : c = 36 := by omega
    rw [fX2_bigParts_L23_s, if_pos (show (36 : Int32) ≤ nI 36 from nI_le (a := 36) (b := 36) (by omega) (by omega)), hend R (fb_ct_zero.mp (Nat.le_zero.mp hr))]
  | succ r ih =>
    intro n c R hc hr hn hR
    obtain ⟨n, rfl⟩ : ∃ m, n = m + 1 := ⟨n - 1, by omega⟩
    have hR36 : ∀ i, R i = true → i < 36 := fun i hi => Nat.lt_of_lt_of_le (hS i (hR i hi).1) h36
    rw [fX2_bigParts_L23_s, if_neg (show ¬ (36 : Int32) ≤ nI c from nI_ge (b := 36) (by omega) (by omega))]
    by_cases h0 : zs R = 0
    · rw [if_pos h0, hend R (fun i _ => (zs_0 hR36).mp h0 i)]
    · obtain ⟨d, hd, h1, h2⟩ := z_least hR36 h0
      obtain ⟨hdS, hdR⟩ := hR d h1
      have hP : ∀ i, zp k w S d i = true → i < w * h := fun i hi => hS i (zp_sub hi)
      have hself := zp_self (k := k) (w := w) hdS
      have hlt : fb_ct (fun i => R i && !zp k w S d i) 36 < fb_ct R 36 := by
        have h3 := ct_diff (S := fun i => R i && !zp k w S d i) (T := R) (fun i hi => by rw [Bool.and_eq_true] at hi; exact hi.1) 36
        have h4 : 0 < fb_ct (fun i => R i && !(R i && !zp k w S d i)) 36 := fb_ct_pos.mpr ⟨d, hd, by rw [h1, hself]; rfl⟩
        rw [h3]
        exact Nat.lt_add_of_pos_right h4
      have hnext := ih n (c + 1) (fun i => R i && !zp k w S d i) (by omega) (by omega) (by omega) (fun i hi => by
        rw [Bool.and_eq_true, Bool.not_eq_true'] at hi
        obtain ⟨b1, b2⟩ := hR i hi.1
        refine ⟨b1, fun j hj => ?_⟩
        rw [Bool.and_eq_true, Bool.not_eq_true']
        refine ⟨b2 j hj, Bool.eq_false_iff.mpr (fun z => ?_)⟩
        have h5 : zp k w S d i = true := by
          rw [zp_eq z, ← zp_eq hj]
          exact zp_self b1
        rw [hi.2] at h5
        exact nomatch h5)
      have hin : ∀ i, zp k w S d i = true → R i = true ∧ S i = true ∧ zp k w S i = zp k w S d := fun i hi => ⟨hdR i hi, zp_sub hi, (zp_eq hi).symm⟩
      rw [if_neg h0, p_lows hd h1 h2]
      unfold fX1_way
      rw [sh_b1_s rfl, H.1, sh_b1_s (p_around7 H H.2.2.2.2.2.2.1 hS), zq_one, sh_b1_s (p_isBig7 H kd hm hP), zs_not, nI_1]
      cases hb : zbg w h kd m (zp k w S d) with
      | false =>
        rw [if_pos z01_f]
        rw [show (fun i => S i && (!(fun i => R i && !zp k w S d i) i && zbg w h kd m (zp k w S i))) = (fun i => S i && (!R i && zbg w h kd m (zp k w S i))) from funext fun i => by
          dsimp only
          cases hz : zp k w S d i with
          | false => simp
          | true =>
            obtain ⟨i1, i2, i3⟩ := hin i hz
            rw [i1, i3, hb]; simp] at hnext
        rw [← H.1]
        rw [H.1] at hnext ⊢
        exact hnext
      | true =>
        rw [if_neg z01_t, zs_or]
        rw [show (fun i => S i && (!(fun i => R i && !zp k w S d i) i && zbg w h kd m (zp k w S i))) = (fun i => (S i && (!R i && zbg w h kd m (zp k w S i))) || zp k w S d i) from funext fun i => by
          dsimp only
          cases hz : zp k w S d i with
          | false => simp
          | true =>
            obtain ⟨i1, i2, i3⟩ := hin i hz
            rw [i1, i2, i3, hb]; simp] at hnext
        rw [H.1] at hnext
        exact hnext
theorem p_bigParts {gw gd gh : Int32} {ga gl gr : Int64} {k w h : Nat} {sh : Nat → Nat} (H : Lay gw gd gh ga gl gr k w h) (kd : Bool) {m m0 t : Nat} (hm : m ≤ 36) (h0 : IsM0 (w * h) sh m0) : fX2_bigParts gw gd gh ga gl gr (zs (up (w * h) sh t)) (z01 kd) (nI m) = some (zs (up (w * h) (zsf k w h sh kd m m0) t)) := by
  have h36 : w * h ≤ 36 := Nat.mul_le_mul H.2.2.2.2.2.2.2.1.2 H.2.2.2.2.2.2.2.2.2
  have hU : ∀ i, up (w * h) sh t i = true → i < w * h := fun i hi => up_lt hi
  unfold fX2_bigParts fX1_all
  rw [sh_b1_s rfl, H.2.2.2.1]
  have hA : (zs (up (w * h) sh t) = zs (fun i => decide (i < w * h))) ↔ t ≤ m0 := by
    rw [zs_eqI (fun i hi => Nat.lt_of_lt_of_le (hU i hi) h36) (fun i hi => Nat.lt_of_lt_of_le (of_decide_eq_true hi) h36)]
    constructor
    · intro q
      obtain ⟨-, i, hi, hs⟩ := h0
      have : up (w * h) sh t i = true := by rw [q]; exact decide_eq_true hi
      have := up_le this
      omega
    · intro q
      funext i
      apply Bool.eq_iff_iff.mpr
      rw [decide_eq_true_iff]
      exact ⟨fun z => up_lt z, fun z => up_mk z (Nat.le_trans q (h0.1 i z))⟩
  by_cases q : t ≤ m0
  · rw [if_pos (hA.mpr q)]
    congr 1
    refine zs_cong (fun i _ => ?_)
    apply Bool.eq_iff_iff.mpr
    constructor
    · exact fun z => up_mk (up_lt z) ((zsf_iff h36 h0 (up_lt z)).mpr ⟨up_le z, Or.inl q⟩)
    · exact fun z => up_mk (up_lt z) ((zsf_iff h36 h0 (up_lt z)).mp (up_le z)).1
  · rw [if_neg (fun z => q (hA.mp z))]
    have hq := p_bigParts_L H kd hm hU 36 sh_fu 0 (up (w * h) sh t) (by omega) (fb_ct_le _ _) (by unfold sh_fu; omega) (fun i hi => ⟨hi, fun j hj => zp_sub hj⟩)
    rw [show zs (fun i => up (w * h) sh t i && (!up (w * h) sh t i && zbg w h kd m (zp k w (up (w * h) sh t) i))) = 0 from by
      rw [← zs_F]
      exact zs_cong (fun i _ => by cases up (w * h) sh t i <;> rfl), nI_0] at hq
    rw [sh_b1_s hq]
    congr 1
    refine zs_cong (fun i _ => ?_)
    apply Bool.eq_iff_iff.mpr
    rw [Bool.and_eq_true]
    constructor
    · rintro ⟨a, b⟩
      exact up_mk (up_lt a) ((zsf_iff h36 h0 (up_lt a)).mpr ⟨up_le a, Or.inr b⟩)
    · intro z
      obtain ⟨a, b⟩ := (zsf_iff h36 h0 (up_lt z)).mp (up_le z)
      exact ⟨up_mk (up_lt z) a, b.resolve_left q⟩
theorem p_thin_L {gw gd gh : Int32} {ga gl gr : Int64} {k w h : Nat} {sh : Nat → Nat} (H : Lay gw gd gh ga gl gr k w h) (kd : Bool) {m m0 : Nat} (hm : m ≤ 36) (h0 : IsM0 (w * h) sh m0) : ∀ (r n t : Nat) (sL : Nat → Int64), t + r = 10 → r < n → (∀ u, u ≤ 9 → sL u = if u < t then zs (up (w * h) (zsf k w h sh kd m m0) u) else zs (up (w * h) sh u)) → ∃ sL2, fX2_thin_L5 n (z01 kd) (nI m) (zs (fun i => decide (i < w * h ∧ zsf k w h sh kd m m0 i < sh i ∧ zsf k w h sh kd m m0 i + 1 < t))) (nI t) gw gd gh ga gl gr sL = some (zs (fun i => decide (i < w * h ∧ zsf k w h sh kd m m0 i < sh i ∧ zsf k w h sh kd m m0 i + 1 < 10)), sL2) ∧ Lev sL2 (w * h) (zsf k w h sh kd m m0) := by
  intro r
  induction r with
  | zero =>
    intro n t sL ht hn hL
    obtain ⟨n, rfl⟩ : ∃ m, n = m + 1 := ⟨n - 1, by omega⟩
    obtain rfl : t = 10 := by omega
    rw [fX2_thin_L5_s, if_pos (show (10 : Int32) ≤ nI 10 from nI_le (a := 10) (b := 10) (by omega) (by omega))]
    exact ⟨sL, rfl, fun u hu => by rw [hL u hu, if_pos (by omega)]⟩
  | succ r ih =>
    intro n t sL ht hn hL
    obtain ⟨n, rfl⟩ : ∃ m, n = m + 1 := ⟨n - 1, by omega⟩
    have hLt := hL t (by omega)
    rw [if_neg (by omega)] at hLt
    rw [fX2_thin_L5_s, if_neg (show ¬ (10 : Int32) ≤ nI t from nI_ge (b := 10) (by omega) (by omega)), sh_b1_s (sh_ald_n (by omega) (by omega)), hLt, sh_b1_s (p_bigParts H kd hm h0), sh_b1_s (sh_ald_n (by omega) (by omega)), hLt, sh_b1_s (sh_astL_n (by omega) (by omega)), zs_not, zs_or, nI_1]
    rw [show zs (fun i => decide (i < w * h ∧ zsf k w h sh kd m m0 i < sh i ∧ zsf k w h sh kd m m0 i + 1 < t) || (up (w * h) sh t i && !up (w * h) (zsf k w h sh kd m m0) t i)) = zs (fun i => decide (i < w * h ∧ zsf k w h sh kd m m0 i < sh i ∧ zsf k w h sh kd m m0 i + 1 < t + 1)) from zs_cong (fun i _ => by
      unfold up
      generalize zsf k w h sh kd m m0 i = f
      apply Bool.eq_iff_iff.mpr
      simp only [Bool.or_eq_true, Bool.and_eq_true, Bool.not_eq_true', decide_eq_true_eq, Bool.and_eq_false_iff, decide_eq_false_iff_not]
      omega)]
    refine ih n (t + 1) _ (by omega) (by omega) (fun u hu => ?_)
    by_cases q : u = t
    · subst q
      rw [pk_uLs, if_pos (by omega)]
    · rw [pk_uLn q, hL u hu]
      by_cases q2 : u < t
      · rw [if_pos q2, if_pos (by omega)]
      · rw [if_neg q2, if_neg (by omega)]
theorem p_thin {gw gd gh : Int32} {ga gl gr : Int64} {k w h : Nat} {sh : Nat → Nat} {sL : Nat → Int64} (H : Lay gw gd gh ga gl gr k w h) (hL : Lev sL (w * h) sh) (h9 : ∀ d, d < w * h → sh d ≤ 9) (kd : Bool) {m m0 : Nat} (hm : m ≤ 36) (h0 : IsM0 (w * h) sh m0) : ∃ sL2, fX2_thin gw gd gh ga gl gr sL (z01 kd) (nI m) = some (nI (fb_ct (fun i => !decide (zsf k w h sh kd m m0 i = sh i)) (w * h)), sL2) ∧ Lev sL2 (w * h) (zsf k w h sh kd m m0) := by
  have h36 : w * h ≤ 36 := Nat.mul_le_mul H.2.2.2.2.2.2.2.1.2 H.2.2.2.2.2.2.2.2.2
  unfold fX2_thin
  obtain ⟨sL2, e2, L2⟩ := p_thin_L H kd hm h0 9 sh_fu 1 sL (by omega) (by unfold sh_fu; omega) (fun u hu => by
    rw [hL u hu]
    by_cases q : u < 1
    · rw [if_pos q, show u = 0 by omega]
      exact zs_cong (fun i _ => by unfold up; simp)
    · rw [if_neg q])
  rw [show zs (fun i => decide (i < w * h ∧ zsf k w h sh kd m m0 i < sh i ∧ zsf k w h sh kd m m0 i + 1 < 1)) = 0 from by
    rw [← zs_F]
    exact zs_cong (fun i _ => decide_eq_false (fun z => by omega)), show nI 1 = 1 from rfl] at e2
  rw [sh_b2_s e2, sh_b1_s (p_bcs _)]
  refine ⟨sL2, ?_, L2⟩
  rw [show fb_ct (fun i => decide (i < w * h ∧ zsf k w h sh kd m m0 i < sh i ∧ zsf k w h sh kd m m0 i + 1 < 10)) 36 = fb_ct (fun i => decide (i < w * h ∧ zsf k w h sh kd m m0 i < sh i ∧ zsf k w h sh kd m m0 i + 1 < 10)) (w * h) from ct_tail h36 (fun j hj _ => decide_eq_false (fun z => by omega))]
  congr 3
  apply fb_ct_cong
  intro i hi
  have h1 := zsf_le (k := k) (kd := kd) (m := m) h36 h0 hi
  have h2 := h9 i hi
  generalize zsf k w h sh kd m m0 i = f at *
  apply Bool.eq_iff_iff.mpr
  rw [decide_eq_true_iff, Bool.not_eq_true', decide_eq_false_iff_not]
  omega
