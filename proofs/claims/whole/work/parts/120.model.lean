/-! the reference's functions over a picture -/
theorem sh_ald_n {α : Type} {f : Nat → α} {n j : Nat} (h : j < n) (hn : n < 2 ^ 31) : sh_ald f n (nI j) = some (f j) := by
  unfold sh_ald
  rw [if_neg (nI_in h hn), nI_clamp (by omega)]
theorem sh_ast_n {f : Nat → Int32} {n j : Nat} {x : Int32} (h : j < n) (hn : n < 2 ^ 31) : sh_ast f n (nI j) x = some (upd f j x) := by
  unfold sh_ast
  rw [if_neg (nI_in h hn), nI_clamp (by omega)]
theorem sh_astZ_n {f : Nat → Int32} {n j : Nat} {x : Int32} (h : j < n) (hn : n < 2 ^ 31) : sh_astZ f n (nI j) x = some (upd f j (vp_nar .boolean x)) := by
  unfold sh_astZ
  rw [if_neg (nI_in h hn), nI_clamp (by omega)]
theorem sh_astL_n {f : Nat → Int64} {n j : Nat} {x : Int64} (h : j < n) (hn : n < 2 ^ 31) : sh_astL f n (nI j) x = some (vp_updL f j x) := by
  unfold sh_astL
  rw [if_neg (nI_in h hn), nI_clamp (by omega)]
theorem sh_div_n {a w : Nat} (ha : a < 2 ^ 31) (h0 : 0 < w) (hw : w < 2 ^ 31) : sh_div (nI a) (nI w) = some (nI (a / w)) := by
  unfold sh_div
  rw [if_neg (nI_ne0 h0 hw), pk_div ha h0 hw]
theorem sh_rem_n {a w : Nat} (ha : a < 2 ^ 31) (h0 : 0 < w) (hw : w < 2 ^ 31) : sh_rem (nI a) (nI w) = some (nI (a % w)) := by
  unfold sh_rem
  rw [if_neg (nI_ne0 h0 hw), pk_rem ha h0 hw]
def Pic (p : Nat → Int32) (k w h : Nat) (sh : Nat → Nat) : Prop := p 0 = nI k ∧ p 1 = nI w ∧ p 2 = nI h ∧ ((k = 4 ∨ k = 8) ∧ (1 ≤ w ∧ w ≤ 6) ∧ (1 ≤ h ∧ h ≤ 6)) ∧ ∀ d, d < w * h → p (3 + d) = nI (sh d) ∧ sh d ≤ 9
theorem Pic.way {p : Nat → Int32} {k w h : Nat} {sh : Nat → Nat} (H : Pic p k w h sh) : p 0 = nI k := H.1
theorem Pic.wide {p : Nat → Int32} {k w h : Nat} {sh : Nat → Nat} (H : Pic p k w h sh) : p 1 = nI w := H.2.1
theorem Pic.high {p : Nat → Int32} {k w h : Nat} {sh : Nat → Nat} (H : Pic p k w h sh) : p 2 = nI h := H.2.2.1
theorem Pic.kk {p : Nat → Int32} {k w h : Nat} {sh : Nat → Nat} (H : Pic p k w h sh) : k = 4 ∨ k = 8 := H.2.2.2.1.1
theorem Pic.ww {p : Nat → Int32} {k w h : Nat} {sh : Nat → Nat} (H : Pic p k w h sh) : 1 ≤ w ∧ w ≤ 6 := H.2.2.2.1.2.1
theorem Pic.hh {p : Nat → Int32} {k w h : Nat} {sh : Nat → Nat} (H : Pic p k w h sh) : 1 ≤ h ∧ h ≤ 6 := H.2.2.2.1.2.2
theorem Pic.n36 {p : Nat → Int32} {k w h : Nat} {sh : Nat → Nat} (H : Pic p k w h sh) : w * h ≤ 36 := Nat.mul_le_mul H.ww.2 H.hh.2
theorem Pic.n0 {p : Nat → Int32} {k w h : Nat} {sh : Nat → Nat} (H : Pic p k w h sh) : 0 < w * h := Nat.mul_pos H.ww.1 H.hh.1
theorem Pic.sh9 {p : Nat → Int32} {k w h : Nat} {sh : Nat → Nat} (H : Pic p k w h sh) {d : Nat} (hd : d < w * h) : sh d ≤ 9 := (H.2.2.2.2 d hd).2
theorem Pic.shade {p : Nat → Int32} {k w h : Nat} {sh : Nat → Nat} (H : Pic p k w h sh) {d : Nat} (hd : d < w * h) : sh_ald p 39 (3 + nI d) = some (nI (sh d)) := by
  have h36 := H.n36
  rw [show (3 : Int32) + nI d = nI (3 + d) from nI_add 3 d, sh_ald_n (by omega) (by omega), (H.2.2.2.2 d hd).1]
theorem Pic.dots {p : Nat → Int32} {k w h : Nat} {sh : Nat → Nat} (H : Pic p k w h sh) : fX8_dotsOf p = some (nI (w * h)) := by
  unfold fX8_dotsOf
  rw [H.wide, H.high, pk_mul]
theorem z_sqbd {z : Int} (h1 : -36 ≤ z) (h2 : z ≤ 36) : 0 ≤ z * z ∧ z * z ≤ 1296 := by
  rw [← Int.natAbs_mul_self' z]
  have h3 : z.natAbs ≤ 36 := by omega
  have h4 : z.natAbs * z.natAbs ≤ 36 * 36 := Nat.mul_le_mul h3 h3
  constructor <;> omega
theorem p_sq {x y : Nat} (hx : x < 36) (hy : y < 36) : ((nI x - nI y) * (nI x - nI y)).toInt = ((x : Int) - (y : Int)) * ((x : Int) - (y : Int)) := by
  have e := pk_sub_toInt (a := x) (b := y) (by omega) (by omega)
  have bd := z_sqbd (z := (x : Int) - (y : Int)) (by omega) (by omega)
  rw [fb_mulI (by rw [e]; omega) (by rw [e]; omega), e]
theorem p_sqs {x y u v : Nat} (hx : x < 36) (hy : y < 36) (hu : u < 36) (hv : v < 36) : ((nI x - nI y) * (nI x - nI y) + (nI u - nI v) * (nI u - nI v)).toInt = ((x : Int) - (y : Int)) * ((x : Int) - (y : Int)) + ((u : Int) - (v : Int)) * ((u : Int) - (v : Int)) := by
  have b1 := z_sqbd (z := (x : Int) - (y : Int)) (by omega) (by omega)
  have b2 := z_sqbd (z := (u : Int) - (v : Int)) (by omega) (by omega)
  have e1 := p_sq hx hy
  have e2 := p_sq hu hv
  rw [fb_addI (by rw [e1, e2]; omega) (by rw [e1, e2]; omega), e1, e2]
theorem p_beside {p : Nat → Int32} {k w a b : Nat} (hp : p 1 = nI w) (hw : 0 < w ∧ w ≤ 6) (hk : k = 4 ∨ k = 8) (ha : a < 36) (hb : b < 36) : fX8_isBeside p (nI a) (nI b) (nI k) = some (z01 (zadj k w a b)) := by
  unfold fX8_isBeside
  rw [hp, sh_b1_s (sh_div_n (by omega) hw.1 (by omega)), sh_b1_s (sh_div_n (by omega) hw.1 (by omega)), sh_b1_s (sh_rem_n (by omega) hw.1 (by omega)), sh_b1_s (sh_rem_n (by omega) hw.1 (by omega))]
  have h1 : a / w < 36 := Nat.lt_of_le_of_lt (Nat.div_le_self a w) ha
  have h2 : b / w < 36 := Nat.lt_of_le_of_lt (Nat.div_le_self b w) hb
  have h3 : a % w < 36 := Nat.lt_of_le_of_lt (Nat.mod_le a w) ha
  have h4 : b % w < 36 := Nat.lt_of_le_of_lt (Nat.mod_le b w) hb
  have e := p_sqs h1 h2 h3 h4
  have ez : ((a / w : Nat) : Int) * 1 = ((a / w : Nat) : Int) := by omega
  rw [show ((((a / w : Nat) : Int) - ((b / w : Nat) : Int)) * (((a / w : Nat) : Int) - ((b / w : Nat) : Int)) + (((a % w : Nat) : Int) - ((b % w : Nat) : Int)) * (((a % w : Nat) : Int) - ((b % w : Nat) : Int))) = zsq w a b from rfl] at e
  have c1 : ((nI (a / w) - nI (b / w)) * (nI (a / w) - nI (b / w)) + (nI (a % w) - nI (b % w)) * (nI (a % w) - nI (b % w)) = 1) ↔ zsq w a b = 1 := by
    rw [fa_eq, e]; rfl
  have c2 : ((nI (a / w) - nI (b / w)) * (nI (a / w) - nI (b / w)) + (nI (a % w) - nI (b % w)) * (nI (a % w) - nI (b % w)) = 2) ↔ zsq w a b = 2 := by
    rw [fa_eq, e]; rfl
  have c3 : nI k = 8 ↔ k = 8 := nI_eq (b := 8) (by omega) (by omega)
  unfold zadj
  by_cases q1 : zsq w a b = 1
  · rw [if_pos (c1.mpr q1), decide_eq_true (Or.inl q1)]; rfl
  · rw [if_neg (fun z => q1 (c1.mp z))]
    by_cases q2 : zsq w a b = 2
    · rw [if_pos (c2.mpr q2)]
      by_cases q3 : k = 8
      · rw [if_pos (c3.mpr q3), decide_eq_true (Or.inr ⟨q2, q3⟩)]; rfl
      · rw [if_neg (fun z => q3 (c3.mp z)), decide_eq_false (fun z => z.elim q1 (fun y => q3 y.2))]; rfl
    · rw [if_neg (fun z => q2 (c2.mp z)), decide_eq_false (fun z => z.elim q1 (fun y => q2 y.1))]; rfl
theorem z_or0 (x : Int64) : x ||| 0 = x := zb_ext (fun i _ => by rw [zb_or, zb_0]; simp)
/-- a set that is gathered bit by bit -/
theorem zI_t {S : Nat → Bool} {d : Nat} (h : S d = true) : zI S d ||| sh_lsl 1 (nI d) = zI S (d + 1) := by simp [zI, h]
theorem zI_f {S : Nat → Bool} {d : Nat} (h : S d = false) : zI S d = zI S (d + 1) := by simp [zI, h]
theorem zI_s {S : Nat → Bool} {n : Nat} (hn : n ≤ 36) (h : ∀ i, S i = true → i < n) : zI S n = zs S := zs_ext (fun i => by
  rw [zb_zI S n (by omega)]
  cases hi : S i with
  | false => simp
  | true => have := h i hi; simp [this, show i < 36 by omega])
theorem p_around_L {p : Nat → Int32} {k w h a K : Nat} {sh : Nat → Nat} (H : Pic p k w h sh) (hK : K = 4 ∨ K = 8) (ha : a < w * h) : ∀ (r n d : Nat), d + r = w * h → r < n → fX8_around_L5 n (nI a) (nI K) (zI (zadj K w a) d) (nI d) p = some (zI (zadj K w a) (w * h)) := by
  have h36 := H.n36
  intro r
  induction r with
  | zero =>
    intro n d hd hn
    obtain ⟨n, rfl⟩ : ∃ m, n = m + 1 := ⟨n - 1, by omega⟩
    obtain rfl : d = w * h := by omega
    rw [fX8_around_L5_s, sh_b1_s H.dots, if_pos (nI_le (Nat.le_refl _) (by omega))]
  | succ r ih =>
    intro n d hd hn
    obtain ⟨n, rfl⟩ : ∃ m, n = m + 1 := ⟨n - 1, by omega⟩
    rw [fX8_around_L5_s, sh_b1_s H.dots, if_neg (nI_ge (by omega) (by omega)), sh_b1_s (p_beside H.wide H.ww hK (by omega) (by omega))]
    have hs := ih n (d + 1) (by omega) (by omega)
    cases hz : zadj K w a d with
    | false => rw [if_pos z01_f, z_or0, nI_1, zI_f hz]; exact hs
    | true => rw [if_neg z01_t, nI_1, zI_t hz]; exact hs
theorem p_around {p : Nat → Int32} {k w h a K : Nat} {sh : Nat → Nat} (H : Pic p k w h sh) (hK : K = 4 ∨ K = 8) (ha : a < w * h) : fX8_around p (nI a) (nI K) = some (zI (zadj K w a) (w * h)) := by
  unfold fX8_around
  have h36 := H.n36
  have := p_around_L H hK ha (w * h) sh_fu 0 (by omega) (by unfold sh_fu; omega)
  rw [show zI (zadj K w a) 0 = 0 from rfl, nI_0] at this
  rw [sh_b1_s this]
/-- the inner loop: the least bit -/
theorem p_least_L (x2 : Int64) (x4 : Int32) {x5 x7 : Int64} {e : Nat} (he : e < 64) (h1 : zb (x5 &&& (x7 ^^^ (-1))) e = true) (h2 : ∀ j, j < e → zb (x5 &&& (x7 ^^^ (-1))) j = false) : ∀ (r n d : Nat), d + r = e → r < n → fX8_spread_L21 n x2 x4 x5 x7 (nI d) = some (nI e) := by
  intro r
  induction r with
  | zero =>
    intro n d hd hn
    obtain ⟨n, rfl⟩ : ∃ m, n = m + 1 := ⟨n - 1, by omega⟩
    obtain rfl : d = e := by omega
    rw [fX8_spread_L21_s, sh_b1_s (p_has _ he), h1, if_neg z01_t]
  | succ r ih =>
    intro n d hd hn
    obtain ⟨n, rfl⟩ : ∃ m, n = m + 1 := ⟨n - 1, by omega⟩
    rw [fX8_spread_L21_s, sh_b1_s (p_has _ (by omega)), h2 d (by omega), if_pos z01_f, nI_1]
    exact ih n (d + 1) (by omega) (by omega)
theorem p_least (x2 : Int64) (x4 : Int32) {x5 x7 : Int64} {e : Nat} (he : e < 64) (h1 : zb (x5 &&& (x7 ^^^ (-1))) e = true) (h2 : ∀ j, j < e → zb (x5 &&& (x7 ^^^ (-1))) j = false) : fX8_spread_L21 sh_fu x2 x4 x5 x7 0 = some (nI e) := by
  have h := p_least_L x2 x4 he h1 h2 e sh_fu 0 (by omega) (by unfold sh_fu; omega)
  rw [nI_0] at h
  exact h
theorem zs_F : zs (fun _ => false) = 0 := (zs_0 (S := fun _ => false) (fun i hi => by cases hi)).mpr (fun _ => rfl)
theorem zI_zs (S : Nat → Bool) {n : Nat} (hn : n ≤ 36) : zI S n = zs (fun i => decide (i < n) && S i) := zs_ext (fun i => by
  rw [zb_zI S n (by omega)]
  by_cases h : i < n
  · simp [h, show i < 36 by omega]
  · simp [h])
theorem p_spread_L {p : Nat → Int32} {k w h d K : Nat} {sh : Nat → Nat} (H : Pic p k w h sh) (hK : K = 4 ∨ K = 8) {S : Nat → Bool} (hS : ∀ i, S i = true → i < w * h) (hd : S d = true) : ∀ (r n : Nat) (U V : Nat → Bool), 36 ≤ fb_ct V 36 + r → r < n → (∀ i, V i = true → U i = true) → (∀ i, U i = true → zc K w S d i) → U d = true → (∀ a b, V a = true → S b = true → zadj K w a b = true → U b = true) →
    fX8_spread_L10 n (zs S) (nI K) (zs U) (zs V) p = some (zs (zp K w S d)) := by
  have h36 := H.n36
  have hS36 : ∀ i, S i = true → i < 36 := fun i hi => Nat.lt_of_lt_of_le (hS i hi) h36
  intro r
  induction r with
  | zero =>
    intro n U V hr hn hVU hU hUd hcl
    obtain ⟨n, rfl⟩ : ∃ m, n = m + 1 := ⟨n - 1, by omega⟩
    have hall := fb_ct_all.mp (Nat.le_antisymm (fb_ct_le V 36) (by omega))
    have hUS : ∀ i, U i = true → i < 36 := fun i hi => hS36 i (zc_in (hU i hi))
    have hUV : U = V := funext fun i => by
      cases hi : U i with
      | true => rw [hall i (hUS i hi)]
      | false => cases hv : V i with
        | true => rw [hVU i hv] at hi; exact nomatch hi
        | false => rfl
    subst hUV
    rw [fX8_spread_L10_s, if_pos rfl, zp_is hUd hU hcl]
  | succ r ih =>
    intro n U V hr hn hVU hU hUd hcl
    obtain ⟨n, rfl⟩ : ∃ m, n = m + 1 := ⟨n - 1, by omega⟩
    have hUS : ∀ i, U i = true → i < 36 := fun i hi => hS36 i (zc_in (hU i hi))
    have hVS : ∀ i, V i = true → i < 36 := fun i hi => hUS i (hVU i hi)
    by_cases hUV : U = V
    · subst hUV
      rw [fX8_spread_L10_s, if_pos rfl, zp_is hUd hU hcl]
    · have hex : ∃ i, i < 36 ∧ (U i = true ∧ V i = false) := by
        refine Classical.byContradiction fun hno => hUV (funext fun i => ?_)
        cases hi : U i with
        | true => cases hv : V i with
          | true => rfl
          | false => exact absurd ⟨i, hUS i hi, hi, hv⟩ hno
        | false => cases hv : V i with
          | true => rw [hVU i hv] at hi; exact nomatch hi
          | false => rfl
      obtain ⟨e, he, ⟨heU, heV⟩, hmin⟩ := fb_first (p := fun i => U i = true ∧ V i = false) hex
      have hbits : ∀ j, zb (zs U &&& (zs V ^^^ (-1))) j = (U j && !V j) := fun j => by
        rw [zs_not, zb_zs' (fun i hi => hUS i (by simp at hi; exact hi.1))]
      have heN : e < w * h := hS e (zc_in (hU e heU))
      rw [fX8_spread_L10_s, if_neg (fun q => hUV (zs_inj hUS hVS q)), sh_b1_s (p_least _ _ (e := e) (by omega) (by rw [hbits, heU, heV]; rfl) (fun j hj => by
        rw [hbits]
        cases hj1 : U j with
        | false => rfl
        | true => cases hj2 : V j with
          | true => rfl
          | false => exact absurd ⟨hj1, hj2⟩ (hmin j hj))), sh_b1_s (p_around H hK heN), zI_zs _ h36, zs_and, zs_or, zs_bit (by omega), zs_or]
      refine ih n _ _ ?_ (by omega) ?_ ?_ ?_ ?_
      · have hc := fb_ct_upd V true (i := e) (n := 36) (by omega)
        rw [heV] at hc
        have hf : (fun i => V i || decide (i = e)) = (fun k => if k = e then true else V k) := funext fun i => by
          by_cases hi : i = e <;> simp [hi]
        rw [hf]
        have hc2 : fb_ct (fun k => if k = e then true else V k) 36 + 0 = fb_ct V 36 + 1 := hc
        omega
      · intro i hi
        simp only [Bool.or_eq_true, decide_eq_true_eq] at hi ⊢
        rcases hi with hi | hi
        · exact Or.inl (hVU i hi)
        · subst hi; exact Or.inl heU
      · intro i hi
        simp only [Bool.or_eq_true, Bool.and_eq_true, decide_eq_true_eq] at hi
        rcases hi with hi | ⟨hi1, -, hi2⟩
        · exact hU i hi
        · exact zc_step (hU e heU) hi1 hi2
      · simp [hUd]
      · intro a b ha hb hab
        simp only [Bool.or_eq_true, Bool.and_eq_true, decide_eq_true_eq] at ha ⊢
        rcases ha with ha | ha
        · exact Or.inl (hcl a b ha hb hab)
        · subst ha; exact Or.inr ⟨hb, hS b hb, hab⟩
theorem p_spread {p : Nat → Int32} {k w h d K : Nat} {sh : Nat → Nat} (H : Pic p k w h sh) (hK : K = 4 ∨ K = 8) {S : Nat → Bool} (hS : ∀ i, S i = true → i < w * h) (hd : d < 36) : fX8_spread p (nI d) (zs S) (nI K) = some (zs (zp K w S d)) := by
  unfold fX8_spread
  rw [zs_bit hd, zs_and]
  cases hSd : S d with
  | true =>
    have h := p_spread_L H hK hS hSd 36 sh_fu (fun i => S i && decide (i = d)) (fun _ => false) (by omega) (by unfold sh_fu; omega) (fun i hi => nomatch hi) (fun i hi => by
      simp only [Bool.and_eq_true, decide_eq_true_eq] at hi
      obtain ⟨-, rfl⟩ := hi
      exact zc_refl hSd) (by simp [hSd]) (fun a b ha => nomatch ha)
    rw [zs_F] at h
    rw [sh_b1_s h]
  | false =>
    have e : zs (fun i => S i && decide (i = d)) = 0 := (zs_0 (fun i hi => by simp at hi; omega)).mpr (fun i => by
      by_cases hi : i = d
      · subst hi; simp [hSd]
      · simp [hi])
    have e2 : zs (zp K w S d) = 0 := (zs_0 (fun i hi => by rw [zp_none hSd] at hi; exact nomatch hi)).mpr (fun i => zp_none hSd i)
    rw [e, e2, sh_fu, fX8_spread_L10_s, if_pos rfl]
    rfl
/-- of shade t or more -/
def up (n : Nat) (sh : Nat → Nat) (t : Nat) : Nat → Bool := fun d => decide (d < n) && decide (t ≤ sh d)
theorem up_lt {n : Nat} {sh : Nat → Nat} {t i : Nat} (h : up n sh t i = true) : i < n := by unfold up at h; simp at h; exact h.1
theorem up_le {n : Nat} {sh : Nat → Nat} {t i : Nat} (h : up n sh t i = true) : t ≤ sh i := by unfold up at h; simp at h; exact h.2
theorem up_mk {n : Nat} {sh : Nat → Nat} {t i : Nat} (h : i < n) (h2 : t ≤ sh i) : up n sh t i = true := by unfold up; simp [h, h2]
theorem up_mono {n : Nat} {sh : Nat → Nat} {t u : Nat} (h : t ≤ u) (i : Nat) (hi : up n sh u i = true) : up n sh t i = true := up_mk (up_lt hi) (Nat.le_trans h (up_le hi))
theorem p_bright_L {p : Nat → Int32} {k w h t : Nat} {sh : Nat → Nat} (H : Pic p k w h sh) (ht : t < 2 ^ 31) (m : Int64) : ∀ (r n d : Nat), d + r = w * h → r < n → fX8_bright_L6 n (nI t) m (zI (fun i => zb m i && decide (t ≤ sh i)) d) (nI d) p = some (zI (fun i => zb m i && decide (t ≤ sh i)) (w * h)) := by
  have h36 := H.n36
  intro r
  induction r with
  | zero =>
    intro n d hd hn
    obtain ⟨n, rfl⟩ : ∃ m, n = m + 1 := ⟨n - 1, by omega⟩
    obtain rfl : d = w * h := by omega
    rw [fX8_bright_L6_s, sh_b1_s H.dots, if_pos (nI_le (Nat.le_refl _) (by omega))]
  | succ r ih =>
    intro n d hd hn
    obtain ⟨n, rfl⟩ : ∃ m, n = m + 1 := ⟨n - 1, by omega⟩
    have hs := ih n (d + 1) (by omega) (by omega)
    have h9 := H.sh9 (d := d) (by omega)
    rw [fX8_bright_L6_s, sh_b1_s H.dots, if_neg (nI_ge (by omega) (by omega)), sh_b1_s (p_has _ (by omega))]
    cases hz : zb m d with
    | false => rw [if_pos z01_f, z_or0, nI_1, zI_f (by simp [hz])]; exact hs
    | true =>
      rw [if_neg z01_t, sh_b1_s (H.shade (by omega))]
      by_cases hq : sh d < t
      · rw [if_pos (nI_lt hq ht), z_or0, nI_1, zI_f (by simp [hz]; omega)]; exact hs
      · rw [if_neg (nI_nlt (by omega) (by omega)), nI_1, zI_t (by simp [hz]; omega)]; exact hs
theorem p_bright {p : Nat → Int32} {k w h t : Nat} {sh : Nat → Nat} (H : Pic p k w h sh) (ht : t < 2 ^ 31) (m : Int64) : fX8_bright p (nI t) m = some (zs (fun i => up (w * h) sh t i && zb m i)) := by
  unfold fX8_bright
  have h36 := H.n36
  have := p_bright_L H ht m (w * h) sh_fu 0 (by omega) (by unfold sh_fu; omega)
  rw [show zI (fun i => zb m i && decide (t ≤ sh i)) 0 = 0 from rfl, nI_0, zI_zs _ h36] at this
  rw [sh_b1_s this]
  congr 1
  apply zs_cong
  intro i _
  unfold up
  cases zb m i <;> cases decide (i < w * h) <;> simp
theorem p_bright1 {p : Nat → Int32} {k w h t : Nat} {sh : Nat → Nat} (H : Pic p k w h sh) (ht : t < 2 ^ 31) : fX8_bright p (nI t) (-1) = some (zs (up (w * h) sh t)) := by
  rw [p_bright H ht]
  congr 1
  apply zs_cong
  intro i hi
  rw [zb_m1]
  simp [show i < 64 by omega]
theorem p_part {p : Nat → Int32} {k w h t d : Nat} {sh : Nat → Nat} (H : Pic p k w h sh) (ht : t < 2 ^ 31) (hd : d < 36) : fX8_part p (nI d) (nI t) = some (zs (zp k w (up (w * h) sh t) d)) := by
  unfold fX8_part
  rw [sh_b1_s (p_bright1 H ht), H.way, sh_b1_s (p_spread H H.kk (fun i hi => up_lt hi) hd)]
theorem p_nodeOf {p : Nat → Int32} {k w h d : Nat} {sh : Nat → Nat} (H : Pic p k w h sh) (hd : d < w * h) : fX8_nodeOf p (nI d) = some (zs (zp k w (up (w * h) sh (sh d)) d)) := by
  unfold fX8_nodeOf
  have h36 := H.n36
  have h9 := H.sh9 hd
  rw [sh_b1_s (H.shade hd), sh_b1_s (p_part H (by omega) (by omega))]
