/-! sets of dots as functions; the long of a set -/
def zI (S : Nat → Bool) : Nat → Int64
  | 0 => 0
  | n + 1 => if S n then zI S n ||| sh_lsl 1 (nI n) else zI S n
theorem zb_zI (S : Nat → Bool) : ∀ n, n ≤ 64 → ∀ i, zb (zI S n) i = (decide (i < n) && S i) := by
  intro n
  induction n with
  | zero => intro _ i; rw [show zI S 0 = 0 from rfl, zb_0]; simp
  | succ n ih =>
    intro hn i
    have ih := ih (by omega) i
    by_cases h : S n = true
    · rw [show zI S (n + 1) = zI S n ||| sh_lsl 1 (nI n) by simp [zI, h], zb_or, ih, zb_bit (by omega)]
      by_cases hi : i = n
      · subst hi; simp [h]
      · by_cases h2 : i < n
        · simp [h2, hi, show i < n + 1 by omega]
        · simp [h2, hi, show ¬ i < n + 1 by omega]
    · rw [show zI S (n + 1) = zI S n by simp [zI, h], ih]
      by_cases hi : i = n
      · subst hi; simp [Bool.eq_false_iff.mpr h]
      · by_cases h2 : i < n
        · simp [h2, show i < n + 1 by omega]
        · simp [h2, show ¬ i < n + 1 by omega]
/-- the long of a set of dots below 36 -/
def zs (S : Nat → Bool) : Int64 := zI S 36
theorem zb_zs (S : Nat → Bool) (i : Nat) : zb (zs S) i = (decide (i < 36) && S i) := zb_zI S 36 (by omega) i
theorem zb_zs' {S : Nat → Bool} (h : ∀ i, S i = true → i < 36) (i : Nat) : zb (zs S) i = S i := by
  rw [zb_zs]
  cases hi : S i with
  | false => simp
  | true => simp [h i hi]
theorem zs_ext {x : Int64} {S : Nat → Bool} (h : ∀ i, zb x i = (decide (i < 36) && S i)) : x = zs S := zb_ext (fun i _ => by rw [h, zb_zs])
theorem zs_ext' {x : Int64} {S : Nat → Bool} (hS : ∀ i, S i = true → i < 36) (h : ∀ i, zb x i = S i) : x = zs S := zb_ext (fun i _ => by rw [h, zb_zs' hS])
theorem zs_cong {S T : Nat → Bool} (h : ∀ i, i < 36 → S i = T i) : zs S = zs T := zb_ext (fun i _ => by
  rw [zb_zs, zb_zs]
  by_cases hi : i < 36
  · rw [h i hi]
  · simp [hi])
theorem zs_inj {S T : Nat → Bool} (hS : ∀ i, S i = true → i < 36) (hT : ∀ i, T i = true → i < 36) (h : zs S = zs T) : S = T := funext fun i => by rw [← zb_zs' hS i, ← zb_zs' hT i, h]
theorem zs_eqI {S T : Nat → Bool} (hS : ∀ i, S i = true → i < 36) (hT : ∀ i, T i = true → i < 36) : zs S = zs T ↔ S = T := ⟨zs_inj hS hT, fun h => by rw [h]⟩
theorem zs_and (S T : Nat → Bool) : zs S &&& zs T = zs (fun i => S i && T i) := zs_ext (fun i => by rw [zb_and, zb_zs, zb_zs]; cases decide (i < 36) <;> simp)
theorem zs_or (S T : Nat → Bool) : zs S ||| zs T = zs (fun i => S i || T i) := zs_ext (fun i => by rw [zb_or, zb_zs, zb_zs]; cases decide (i < 36) <;> simp)
theorem zs_not (S T : Nat → Bool) : zs S &&& (zs T ^^^ (-1)) = zs (fun i => S i && !T i) := zs_ext (fun i => by
  rw [zb_and, zb_xor, zb_zs, zb_zs, zb_m1]
  by_cases h : i < 36
  · simp [h, show i < 64 by omega]
  · simp [h])
theorem zs_bit {k : Nat} (hk : k < 36) : sh_lsl 1 (nI k) = zs (fun i => decide (i = k)) := zs_ext (fun i => by
  rw [zb_bit (by omega)]
  by_cases h : i = k
  · subst h; simp [hk]
  · simp [h])
theorem zs_0 {S : Nat → Bool} (hS : ∀ i, S i = true → i < 36) : zs S = 0 ↔ ∀ i, S i = false := by
  constructor
  · intro h i
    rw [← zb_zs' hS i, h, zb_0]
  · intro h
    apply zb_ext
    intro i _
    rw [zb_zs, h i, zb_0]; simp
theorem zs_n (S : Nat → Bool) : zn (zs S) 36 = fb_ct S 36 := fb_ct_cong (fun k hk => by rw [zb_zs]; simp [hk])
/-! neighbours, and what hangs together -/
def zsq (w a b : Nat) : Int := (((a / w : Nat) : Int) - ((b / w : Nat) : Int)) * (((a / w : Nat) : Int) - ((b / w : Nat) : Int)) + (((a % w : Nat) : Int) - ((b % w : Nat) : Int)) * (((a % w : Nat) : Int) - ((b % w : Nat) : Int))
def zadj (k w a b : Nat) : Bool := decide (zsq w a b = 1 ∨ zsq w a b = 2 ∧ k = 8)
theorem z_sqs (x y : Int) : (x - y) * (x - y) = (y - x) * (y - x) := by
  rw [show y - x = -(x - y) by omega, Int.neg_mul_neg]
theorem zadj_symm (k w a b : Nat) : zadj k w a b = zadj k w b a := by
  unfold zadj zsq
  rw [z_sqs ((a / w : Nat) : Int), z_sqs ((a % w : Nat) : Int)]
/-- e hangs together with d in S -/
def zc (k w : Nat) (S : Nat → Bool) (d e : Nat) : Prop := S d = true ∧ ∀ X : Nat → Prop, X d → (∀ a b, X a → S a = true → S b = true → zadj k w a b = true → X b) → X e
theorem zc_refl {k w : Nat} {S : Nat → Bool} {d : Nat} (h : S d = true) : zc k w S d d := ⟨h, fun _ hd _ => hd⟩
theorem zc_ind {k w : Nat} {S : Nat → Bool} {d e : Nat} (h : zc k w S d e) (X : Nat → Prop) (hd : X d) (hs : ∀ a b, X a → S a = true → S b = true → zadj k w a b = true → X b) : X e := h.2 X hd hs
theorem zc_in {k w : Nat} {S : Nat → Bool} {d e : Nat} (h : zc k w S d e) : S e = true := zc_ind h (fun x => S x = true) h.1 (fun _ _ _ _ hb _ => hb)
theorem zc_step {k w : Nat} {S : Nat → Bool} {d a b : Nat} (h : zc k w S d a) (hb : S b = true) (hab : zadj k w a b = true) : zc k w S d b := ⟨h.1, fun X hd hs => hs a b (h.2 X hd hs) (zc_in h) hb hab⟩
theorem zc_trans {k w : Nat} {S : Nat → Bool} {d e f : Nat} (h1 : zc k w S d e) (h2 : zc k w S e f) : zc k w S d f := zc_ind h2 (fun x => zc k w S d x) h1 (fun _ _ ha _ hb hab => zc_step ha hb hab)
theorem zc_symm {k w : Nat} {S : Nat → Bool} {d e : Nat} (h : zc k w S d e) : zc k w S e d := by
  have := zc_ind h (fun x => zc k w S x d) (zc_refl h.1) (fun a b ha haS hb hab => zc_trans (zc_step (zc_refl hb) haS (by rw [zadj_symm]; exact hab)) ha)
  exact this
theorem zc_mono {k w : Nat} {S T : Nat → Bool} (hST : ∀ i, S i = true → T i = true) {d e : Nat} (h : zc k w S d e) : zc k w T d e := zc_ind h (fun x => zc k w T d x) (zc_refl (hST d h.1)) (fun _ b ha _ hb hab => zc_step ha (hST b hb) hab)
/-- the part of S in which d is -/
noncomputable def zp (k w : Nat) (S : Nat → Bool) (d : Nat) : Nat → Bool := fun e => @decide (zc k w S d e) (Classical.propDecidable _)
theorem zp_iff {k w : Nat} {S : Nat → Bool} {d e : Nat} : zp k w S d e = true ↔ zc k w S d e := by unfold zp; exact @decide_eq_true_iff _ (Classical.propDecidable _)
theorem zp_sub {k w : Nat} {S : Nat → Bool} {d e : Nat} (h : zp k w S d e = true) : S e = true := zc_in (zp_iff.mp h)
theorem zp_eq {k w : Nat} {S : Nat → Bool} {d e : Nat} (h : zp k w S d e = true) : zp k w S d = zp k w S e := by
  have h := zp_iff.mp h
  funext x
  apply Bool.eq_iff_iff.mpr
  rw [zp_iff, zp_iff]
  exact ⟨fun q => zc_trans (zc_symm h) q, fun q => zc_trans h q⟩
theorem zp_self {k w : Nat} {S : Nat → Bool} {d : Nat} (h : S d = true) : zp k w S d d = true := zp_iff.mpr (zc_refl h)
theorem zp_none {k w : Nat} {S : Nat → Bool} {d : Nat} (h : S d = false) (e : Nat) : zp k w S d e = false := by
  apply Bool.eq_false_iff.mpr
  intro q
  rw [(zp_iff.mp q).1] at h
  exact nomatch h
theorem zp_mono {k w : Nat} {S T : Nat → Bool} (hST : ∀ i, S i = true → T i = true) {d e : Nat} (h : zp k w S d e = true) : zp k w T d e = true := zp_iff.mpr (zc_mono hST (zp_iff.mp h))
/-- a set that is closed in S, and holds d, holds d's part -/
theorem zp_closed {k w : Nat} {S X : Nat → Bool} {d e : Nat} (hd : X d = true) (hs : ∀ a b, X a = true → S a = true → S b = true → zadj k w a b = true → X b = true) (h : zp k w S d e = true) : X e = true := zc_ind (zp_iff.mp h) (fun x => X x = true) hd hs
/-- a set between: it holds d, every dot of it hangs together with d, it is closed: it is d's part -/
theorem zp_is {k w : Nat} {S X : Nat → Bool} {d : Nat} (hd : X d = true) (hc : ∀ a, X a = true → zc k w S d a) (hs : ∀ a b, X a = true → S b = true → zadj k w a b = true → X b = true) : X = zp k w S d := by
  funext e
  apply Bool.eq_iff_iff.mpr
  constructor
  · exact fun q => zp_iff.mpr (hc e q)
  · exact fun q => zp_closed hd (fun a b ha _ hb hab => hs a b ha hb hab) q
