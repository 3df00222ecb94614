/-! helper rows: the option monad of the pure functions; one-instruction rows with named results; calls by contracts -/
/-- how many turns a loop may take -/
def sh_fu : Nat := 2000
def sh_b1 {α β : Type} (o : Option α) (k : α → Option β) : Option β := match o with
  | none => none
  | some a => k a
theorem sh_b1_e {α β : Type} {o : Option α} {k : α → Option β} {r : β} (h : sh_b1 o k = some r) : ∃ a, o = some a ∧ k a = some r := by
  cases o with
  | none => exact nomatch h
  | some a => exact ⟨a, rfl, h⟩
theorem sh_b1_s {α β : Type} {o : Option α} {k : α → Option β} {a : α} (h : o = some a) : sh_b1 o k = k a := by rw [h]; rfl
def sh_b2 {α1 α2 β : Type} (o : Option (α1 × α2)) (k : α1 → α2 → Option β) : Option β := match o with
  | none => none
  | some a => k a.1 a.2
theorem sh_b2_e {α1 α2 β : Type} {o : Option (α1 × α2)} {k : α1 → α2 → Option β} {r : β} (h : sh_b2 o k = some r) : ∃ a b, o = some (a, b) ∧ k a b = some r := by
  cases o with
  | none => exact nomatch h
  | some a => exact ⟨a.1, a.2, rfl, h⟩
theorem sh_b2_s {α1 α2 β : Type} {o : Option (α1 × α2)} {k : α1 → α2 → Option β} {a : α1} {b : α2} (h : o = some (a, b)) : sh_b2 o k = k a b := by rw [h]; rfl
def sh_b3 {α1 α2 α3 β : Type} (o : Option (α1 × α2 × α3)) (k : α1 → α2 → α3 → Option β) : Option β := match o with
  | none => none
  | some a => k a.1 a.2.1 a.2.2
theorem sh_b3_e {α1 α2 α3 β : Type} {o : Option (α1 × α2 × α3)} {k : α1 → α2 → α3 → Option β} {r : β} (h : sh_b3 o k = some r) : ∃ a b c, o = some (a, b, c) ∧ k a b c = some r := by
  cases o with
  | none => exact nomatch h
  | some a => exact ⟨a.1, a.2.1, a.2.2, rfl, h⟩
theorem sh_b3_s {α1 α2 α3 β : Type} {o : Option (α1 × α2 × α3)} {k : α1 → α2 → α3 → Option β} {a : α1} {b : α2} {c : α3} (h : o = some (a, b, c)) : sh_b3 o k = k a b c := by rw [h]; rfl
def sh_b4 {α1 α2 α3 α4 β : Type} (o : Option (α1 × α2 × α3 × α4)) (k : α1 → α2 → α3 → α4 → Option β) : Option β := match o with
  | none => none
  | some a => k a.1 a.2.1 a.2.2.1 a.2.2.2
theorem sh_b4_e {α1 α2 α3 α4 β : Type} {o : Option (α1 × α2 × α3 × α4)} {k : α1 → α2 → α3 → α4 → Option β} {r : β} (h : sh_b4 o k = some r) : ∃ a b c d, o = some (a, b, c, d) ∧ k a b c d = some r := by
  cases o with
  | none => exact nomatch h
  | some a => exact ⟨a.1, a.2.1, a.2.2.1, a.2.2.2, rfl, h⟩
theorem sh_b4_s {α1 α2 α3 α4 β : Type} {o : Option (α1 × α2 × α3 × α4)} {k : α1 → α2 → α3 → α4 → Option β} {a : α1} {b : α2} {c : α3} {d : α4} (h : o = some (a, b, c, d)) : sh_b4 o k = k a b c d := by rw [h]; rfl
def sh_b5 {α1 α2 α3 α4 α5 β : Type} (o : Option (α1 × α2 × α3 × α4 × α5)) (k : α1 → α2 → α3 → α4 → α5 → Option β) : Option β := match o with
  | none => none
  | some a => k a.1 a.2.1 a.2.2.1 a.2.2.2.1 a.2.2.2.2
theorem sh_b5_e {α1 α2 α3 α4 α5 β : Type} {o : Option (α1 × α2 × α3 × α4 × α5)} {k : α1 → α2 → α3 → α4 → α5 → Option β} {r : β} (h : sh_b5 o k = some r) : ∃ a b c d e, o = some (a, b, c, d, e) ∧ k a b c d e = some r := by
  cases o with
  | none => exact nomatch h
  | some a => exact ⟨a.1, a.2.1, a.2.2.1, a.2.2.2.1, a.2.2.2.2, rfl, h⟩
theorem sh_b5_s {α1 α2 α3 α4 α5 β : Type} {o : Option (α1 × α2 × α3 × α4 × α5)} {k : α1 → α2 → α3 → α4 → α5 → Option β} {a : α1} {b : α2} {c : α3} {d : α4} {e : α5} (h : o = some (a, b, c, d, e)) : sh_b5 o k = k a b c d e := by rw [h]; rfl
def sh_b6 {α1 α2 α3 α4 α5 α6 β : Type} (o : Option (α1 × α2 × α3 × α4 × α5 × α6)) (k : α1 → α2 → α3 → α4 → α5 → α6 → Option β) : Option β := match o with
  | none => none
  | some a => k a.1 a.2.1 a.2.2.1 a.2.2.2.1 a.2.2.2.2.1 a.2.2.2.2.2
theorem sh_b6_e {α1 α2 α3 α4 α5 α6 β : Type} {o : Option (α1 × α2 × α3 × α4 × α5 × α6)} {k : α1 → α2 → α3 → α4 → α5 → α6 → Option β} {r : β} (h : sh_b6 o k = some r) : ∃ a b c d e f, o = some (a, b, c, d, e, f) ∧ k a b c d e f = some r := by
  cases o with
  | none => exact nomatch h
  | some a => exact ⟨a.1, a.2.1, a.2.2.1, a.2.2.2.1, a.2.2.2.2.1, a.2.2.2.2.2, rfl, h⟩
theorem sh_b6_s {α1 α2 α3 α4 α5 α6 β : Type} {o : Option (α1 × α2 × α3 × α4 × α5 × α6)} {k : α1 → α2 → α3 → α4 → α5 → α6 → Option β} {a : α1} {b : α2} {c : α3} {d : α4} {e : α5} {f : α6} (h : o = some (a, b, c, d, e, f)) : sh_b6 o k = k a b c d e f := by rw [h]; rfl
/-- a loop that may return from within -/
def sh_bs {ρ τ : Type} (o : Option (ρ ⊕ τ)) (k : τ → Option ρ) : Option ρ := match o with
  | none => none
  | some (.inl r) => some r
  | some (.inr t) => k t
theorem sh_bs_e {ρ τ : Type} {o : Option (ρ ⊕ τ)} {k : τ → Option ρ} {r : ρ} (h : sh_bs o k = some r) : ∃ z, o = some z ∧ (∀ x, z = .inl x → x = r) ∧ ∀ t, z = .inr t → k t = some r := by
  cases o with
  | none => exact nomatch h
  | some z =>
    cases z with
    | inl x => exact ⟨.inl x, rfl, fun y e => by cases e; exact Option.some.inj h, fun t e => (nomatch e)⟩
    | inr t => exact ⟨.inr t, rfl, fun y e => (nomatch e), fun t e => by cases e; exact h⟩
theorem sh_bs_l {ρ τ : Type} {o : Option (ρ ⊕ τ)} {k : τ → Option ρ} {r : ρ} (h : o = some (.inl r)) : sh_bs o k = some r := by rw [h]; rfl
theorem sh_bs_r {ρ τ : Type} {o : Option (ρ ⊕ τ)} {k : τ → Option ρ} {t : τ} (h : o = some (.inr t)) : sh_bs o k = k t := by rw [h]; rfl
/-- .. inside another such loop -/
def sh_bt {ρ τ σ : Type} (o : Option (ρ ⊕ τ)) (k : τ → Option (ρ ⊕ σ)) : Option (ρ ⊕ σ) := match o with
  | none => none
  | some (.inl r) => some (.inl r)
  | some (.inr t) => k t
theorem sh_bt_e {ρ τ σ : Type} {o : Option (ρ ⊕ τ)} {k : τ → Option (ρ ⊕ σ)} {r : ρ ⊕ σ} (h : sh_bt o k = some r) : ∃ z, o = some z ∧ (∀ x, z = .inl x → r = .inl x) ∧ ∀ t, z = .inr t → k t = some r := by
  cases o with
  | none => exact nomatch h
  | some z =>
    cases z with
    | inl x => exact ⟨.inl x, rfl, fun y e => by cases e; exact (Option.some.inj h).symm, fun t e => (nomatch e)⟩
    | inr t => exact ⟨.inr t, rfl, fun y e => (nomatch e), fun t e => by cases e; exact h⟩
/-- a value gets a name -/
def sh_nm {α β : Type} (v : α) (k : α → β) : β := k v
theorem sh_nm_e {α β : Type} {v : α} {k : α → β} {r : β} (h : sh_nm v k = r) : ∃ x, x = v ∧ k x = r := ⟨v, rfl, h⟩
def sh_ald {α : Type} (f : Nat → α) (n : Nat) (i : Int32) : Option α := if i < 0 ∨ n ≤ i.toNatClampNeg then none else some (f i.toNatClampNeg)
theorem sh_ald_e {α : Type} {f : Nat → α} {n : Nat} {i : Int32} {v : α} (h : sh_ald f n i = some v) : vp_in i n ∧ f i.toNatClampNeg = v := by
  unfold sh_ald at h
  by_cases hc : i < 0 ∨ n ≤ i.toNatClampNeg
  · rw [if_pos hc] at h; exact nomatch h
  · rw [if_neg hc] at h; exact ⟨hc, Option.some.inj h⟩
def sh_ast (f : Nat → Int32) (n : Nat) (i x : Int32) : Option (Nat → Int32) := if i < 0 ∨ n ≤ i.toNatClampNeg then none else some (upd f i.toNatClampNeg x)
theorem sh_ast_e {f : Nat → Int32} {n : Nat} {i x : Int32} {v : Nat → Int32} (h : sh_ast f n i x = some v) : vp_in i n ∧ upd f i.toNatClampNeg x = v := by
  unfold sh_ast at h
  by_cases hc : i < 0 ∨ n ≤ i.toNatClampNeg
  · rw [if_pos hc] at h; exact nomatch h
  · rw [if_neg hc] at h; exact ⟨hc, Option.some.inj h⟩
def sh_astZ (f : Nat → Int32) (n : Nat) (i x : Int32) : Option (Nat → Int32) := if i < 0 ∨ n ≤ i.toNatClampNeg then none else some (upd f i.toNatClampNeg (vp_nar .boolean x))
theorem sh_astZ_e {f : Nat → Int32} {n : Nat} {i x : Int32} {v : Nat → Int32} (h : sh_astZ f n i x = some v) : vp_in i n ∧ upd f i.toNatClampNeg (vp_nar .boolean x) = v := by
  unfold sh_astZ at h
  by_cases hc : i < 0 ∨ n ≤ i.toNatClampNeg
  · rw [if_pos hc] at h; exact nomatch h
  · rw [if_neg hc] at h; exact ⟨hc, Option.some.inj h⟩
def sh_astL (f : Nat → Int64) (n : Nat) (i : Int32) (x : Int64) : Option (Nat → Int64) := if i < 0 ∨ n ≤ i.toNatClampNeg then none else some (vp_updL f i.toNatClampNeg x)
theorem sh_astL_e {f : Nat → Int64} {n : Nat} {i : Int32} {x : Int64} {v : Nat → Int64} (h : sh_astL f n i x = some v) : vp_in i n ∧ vp_updL f i.toNatClampNeg x = v := by
  unfold sh_astL at h
  by_cases hc : i < 0 ∨ n ≤ i.toNatClampNeg
  · rw [if_pos hc] at h; exact nomatch h
  · rw [if_neg hc] at h; exact ⟨hc, Option.some.inj h⟩
def sh_div (x y : Int32) : Option Int32 := if y = 0 then none else some (x / y)
theorem sh_div_e {x y v : Int32} (h : sh_div x y = some v) : ¬ y = 0 ∧ x / y = v := by
  unfold sh_div at h
  by_cases hc : y = 0
  · rw [if_pos hc] at h; exact nomatch h
  · rw [if_neg hc] at h; exact ⟨hc, Option.some.inj h⟩
def sh_rem (x y : Int32) : Option Int32 := if y = 0 then none else some (x - x / y * y)
theorem sh_rem_e {x y v : Int32} (h : sh_rem x y = some v) : ¬ y = 0 ∧ x - x / y * y = v := by
  unfold sh_rem at h
  by_cases hc : y = 0
  · rw [if_pos hc] at h; exact nomatch h
  · rw [if_neg hc] at h; exact ⟨hc, Option.some.inj h⟩
def sh_divL (x y : Int64) : Option Int64 := if y = 0 then none else some (x / y)
theorem sh_divL_e {x y v : Int64} (h : sh_divL x y = some v) : ¬ y = 0 ∧ x / y = v := by
  unfold sh_divL at h
  by_cases hc : y = 0
  · rw [if_pos hc] at h; exact nomatch h
  · rw [if_neg hc] at h; exact ⟨hc, Option.some.inj h⟩
def sh_remL (x y : Int64) : Option Int64 := if y = 0 then none else some (x - x / y * y)
theorem sh_remL_e {x y v : Int64} (h : sh_remL x y = some v) : ¬ y = 0 ∧ x - x / y * y = v := by
  unfold sh_remL at h
  by_cases hc : y = 0
  · rw [if_pos hc] at h; exact nomatch h
  · rw [if_neg hc] at h; exact ⟨hc, Option.some.inj h⟩
def sh_zr (v : Int32) : Option Int32 := if v = 0 ∨ v = 1 then some v else none
theorem sh_zr_e {v o : Int32} (h : sh_zr v = some o) : narrow .boolean (.int v) = .int v ∧ v = o := by
  unfold sh_zr at h
  by_cases hc : v = 0 ∨ v = 1
  · rw [if_pos hc] at h
    refine ⟨?_, Option.some.inj h⟩
    rcases hc with rfl | rfl <;> rfl
  · rw [if_neg hc] at h; exact nomatch h
def sh_cpy (f g : Nat → Int64) (n0 n1 : Nat) (sp dp n : Int32) : Option (Nat → Int64) := if sp < 0 ∨ dp < 0 ∨ n < 0 ∨ n0 < sp.toNatClampNeg + n.toNatClampNeg ∨ n1 < dp.toNatClampNeg + n.toNatClampNeg then none else some (va_cpy f g sp.toNatClampNeg dp.toNatClampNeg n.toNatClampNeg)
theorem sh_cpy_e {f g : Nat → Int64} {n0 n1 : Nat} {sp dp n : Int32} {v : Nat → Int64} (h : sh_cpy f g n0 n1 sp dp n = some v) : (¬ sp < 0 ∧ ¬ dp < 0 ∧ ¬ n < 0 ∧ sp.toNatClampNeg + n.toNatClampNeg ≤ n0 ∧ dp.toNatClampNeg + n.toNatClampNeg ≤ n1) ∧ va_cpy f g sp.toNatClampNeg dp.toNatClampNeg n.toNatClampNeg = v := by
  unfold sh_cpy at h
  by_cases hc : sp < 0 ∨ dp < 0 ∨ n < 0 ∨ n0 < sp.toNatClampNeg + n.toNatClampNeg ∨ n1 < dp.toNatClampNeg + n.toNatClampNeg
  · rw [if_pos hc] at h; exact nomatch h
  · rw [if_neg hc] at h
    simp only [not_or, Nat.not_lt] at hc
    exact ⟨hc, Option.some.inj h⟩
def sh_lsr (x : Int64) (y : Int32) : Int64 := (x.toUInt64 >>> (y.toInt64.toUInt64 &&& Int64.toUInt64 63)).toInt64
def sh_lsl (x : Int64) (y : Int32) : Int64 := x <<< (y.toInt64 &&& 63)
def sh_isr (x y : Int32) : Int32 := (x.toUInt32 >>> (y.toUInt32 &&& Int32.toUInt32 31)).toInt32
def sh_abs (x : Int32) : Int32 := if 0 ≤ x then x else 0 - x
def sh_max (x y : Int32) : Int32 := if x < y then y else x
abbrev sh_ty (cI cJ cZ : ClassId) : List (ClassId × FieldType) := [(cI, .int), (cJ, .long), (cZ, .boolean)]
/-- a reading method's start -/
abbrev sh_Pr (D : va_G) (tys : List (ClassId × FieldType)) (ws : va_W) (av : List Value) : Array Value → State → Prop := va_Pc av (fun U => va_P D vwCl ws U.heap ∧ va_K D vwCl tys U)
/-- a writing method's start -/
abbrev sh_Pw (D : va_G) (tys : List (ClassId × FieldType)) (sz : Nat) (ws : va_W) (av : List Value) : Array Value → State → Prop := va_Pc av (fun U => U.heap.size = sz ∧ va_P D vwCl ws U.heap ∧ va_K D vwCl tys U ∧ va_D (fun _ => True) ws)
/-- .. and with a word of the nest -/
abbrev sh_Pn (nw : Cond) (P : Array Value → State → Prop) : Array Value → State → Prop := fun v U => P v U ∧ va_Nw nw U
abbrev sh_Bw (D : va_G) (tys : List (ClassId × FieldType)) (A : Nat → Prop) (w1 : va_W) : Unit → State → Prop := fun _ t => va_P D vwCl w1 t.heap ∧ va_K D vwCl tys t ∧ va_D A w1
abbrev sh_Qi (D : va_G) (tys : List (ClassId × FieldType)) (A : Nat → Prop) (w1 : va_W) (o : Int32) := va_Qi (fun (z : Int32) (_ : Unit) => z = o) (sh_Bw D tys A w1) A
abbrev sh_Ql (D : va_G) (tys : List (ClassId × FieldType)) (A : Nat → Prop) (w1 : va_W) (o : Int64) := va_Ql (fun (z : Int64) (_ : Unit) => z = o) (sh_Bw D tys A w1) A
abbrev sh_Qv (D : va_G) (tys : List (ClassId × FieldType)) (A : Nat → Prop) (w1 : va_W) := va_Qv (fun (_ : Unit) => True) (sh_Bw D tys A w1) A
theorem sh_blr {D : va_G} {tys : List (ClassId × FieldType)} {ws : va_W} {av : List Value} : FrameBlind (sh_Pr D tys ws av) := fun a U g mk q => ⟨q.1, q.2.1, va_K.moved (u := U) (U := U.calling g mk a) (Vm.Alike.refl U.vm) q.2.2⟩
theorem sh_blw {D : va_G} {tys : List (ClassId × FieldType)} {sz : Nat} {ws : va_W} {av : List Value} : FrameBlind (sh_Pw D tys sz ws av) := fun a U g mk q => ⟨q.1, q.2.1, q.2.2.1, va_K.moved (u := U) (U := U.calling g mk a) (Vm.Alike.refl U.vm) q.2.2.2.1, q.2.2.2.2⟩
theorem sh_bln {nw : Cond} (hw : nw.onTables = true) {P : Array Value → State → Prop} (h : FrameBlind P) : FrameBlind (sh_Pn nw P) := fun a U g mk q => ⟨h a U g mk q.1, va_Nw.same (u := U) (U := U.calling g mk a) hw rfl q.2⟩
section SH
variable {p : Program} {l : Launch} {e : Env} {R : Room} {s : State} {m : MethodId} {args : Array Value} {below : List Frame} {meth : Method} {c : Code} {H : Heap} {locs : List Loc} {cells slots : Nat} {Q : State → Prop}
variable {cc bytes : ByteArray} {pc : Nat} {ls : Array Slot} {rest st0 : List Value} {D : va_G} {cl : List vw_C} {Az : Nat → Prop} {a b : Nat} {tys : List (ClassId × FieldType)} {ws wn wc w1 : va_W} {H0 : Heap}
variable {nL maxL n index : Nat} {Ts wy : List Cond} {own C : String} {y : MethodName} {ret : Option FieldType} {rm : Room} {As : List Value}
theorem sh_iald (hexec : p.tables.exec = Jvm.exec) (hb : c.code = cc) (hK : va_K D cl tys s) (hP : va_P D cl ws H) (q0 t0 : Nat) {cA : ClassId} {n : Nat} {f : Nat → Int32} (ha : ws[q0]? = some (a, .inl (cA, n, .inl f))) (ht : tys[t0]? = some (cA, .int)) {i v : Int32} (hin : vp_in i n ∧ f i.toNatClampNeg = v) (hdg : decode cc pc = .ok (.iaload, 1))
    (kk : W p l e R s m args below meth c H locs cells slots Q (F0 m (pc + 1) ls (.int v :: rest))) : W p l e R s m args below meth c H locs cells slots Q (F0 m pc ls (.int i :: .ref a :: rest)) := by
  obtain ⟨h1, rfl⟩ := hin
  exact va_iald hexec hb hK hP q0 t0 ha ht h1 hdg kk
theorem sh_zald (hexec : p.tables.exec = Jvm.exec) (hb : c.code = cc) (hK : va_K D cl tys s) (hP : va_P D cl ws H) (q0 t0 : Nat) {cA : ClassId} {n : Nat} {f : Nat → Int32} (ha : ws[q0]? = some (a, .inl (cA, n, .inl f))) (ht : tys[t0]? = some (cA, .boolean)) {i v : Int32} (hin : vp_in i n ∧ f i.toNatClampNeg = v) (hdg : decode cc pc = .ok (.baload, 1))
    (kk : W p l e R s m args below meth c H locs cells slots Q (F0 m (pc + 1) ls (.int v :: rest))) : W p l e R s m args below meth c H locs cells slots Q (F0 m pc ls (.int i :: .ref a :: rest)) := by
  obtain ⟨h1, rfl⟩ := hin
  exact va_zald hexec hb hK hP q0 t0 ha ht h1 hdg kk
theorem sh_lald (hexec : p.tables.exec = Jvm.exec) (hb : c.code = cc) (hK : va_K D cl tys s) (hP : va_P D cl ws H) (q0 t0 : Nat) {cA : ClassId} {n : Nat} {f : Nat → Int64} (ha : ws[q0]? = some (a, .inl (cA, n, .inr (.inl f)))) (ht : tys[t0]? = some (cA, .long)) {i : Int32} {v : Int64} (hin : vp_in i n ∧ f i.toNatClampNeg = v) (hdg : decode cc pc = .ok (.laload, 1))
    (kk : W p l e R s m args below meth c H locs cells slots Q (F0 m (pc + 1) ls (.long v :: rest))) : W p l e R s m args below meth c H locs cells slots Q (F0 m pc ls (.int i :: .ref a :: rest)) := by
  obtain ⟨h1, rfl⟩ := hin
  exact va_lald hexec hb hK hP q0 t0 ha ht h1 hdg kk
theorem sh_iast (hexec : p.tables.exec = Jvm.exec) (hb : c.code = cc) (hK : va_K D cl tys s) (hP : va_P D cl ws H) (hD : va_D Az ws) (hS : va_S Az H0 H locs) (q0 t0 : Nat) {cA : ClassId} {n : Nat} {f f1 : Nat → Int32} (ha : ws[q0]? = some (a, .inl (cA, n, .inl f))) (ht : tys[t0]? = some (cA, .int)) {i x : Int32} (hin : vp_in i n ∧ upd f i.toNatClampNeg x = f1) (hn : ws.set q0 (a, .inl (cA, n, .inl f1)) = wn) (hdg : decode cc pc = .ok (.iastore, 1))
    (kk : ∀ (H1 : Heap) (locs1 : List Loc), va_P D cl wn H1 → va_D Az wn → va_S Az H0 H1 locs1 → W p l e R s m args below meth c H1 locs1 cells slots Q (F0 m (pc + 1) ls rest)) : W p l e R s m args below meth c H locs cells slots Q (F0 m pc ls (.int x :: .int i :: .ref a :: rest)) := by
  obtain ⟨h1, rfl⟩ := hin
  subst hn
  exact va_iast hexec hb hK hP hD hS q0 t0 ha ht h1 hdg kk
theorem sh_zast (hexec : p.tables.exec = Jvm.exec) (hb : c.code = cc) (hK : va_K D cl tys s) (hP : va_P D cl ws H) (hD : va_D Az ws) (hS : va_S Az H0 H locs) (q0 t0 : Nat) {cA : ClassId} {n : Nat} {f f1 : Nat → Int32} (ha : ws[q0]? = some (a, .inl (cA, n, .inl f))) (ht : tys[t0]? = some (cA, .boolean)) {i x : Int32} (hin : vp_in i n ∧ upd f i.toNatClampNeg (vp_nar .boolean x) = f1) (hn : ws.set q0 (a, .inl (cA, n, .inl f1)) = wn) (hdg : decode cc pc = .ok (.bastore, 1))
    (kk : ∀ (H1 : Heap) (locs1 : List Loc), va_P D cl wn H1 → va_D Az wn → va_S Az H0 H1 locs1 → W p l e R s m args below meth c H1 locs1 cells slots Q (F0 m (pc + 1) ls rest)) : W p l e R s m args below meth c H locs cells slots Q (F0 m pc ls (.int x :: .int i :: .ref a :: rest)) := by
  obtain ⟨h1, rfl⟩ := hin
  subst hn
  exact va_zast hexec hb hK hP hD hS q0 t0 ha ht h1 hdg kk
theorem sh_last (hexec : p.tables.exec = Jvm.exec) (hb : c.code = cc) (hK : va_K D cl tys s) (hP : va_P D cl ws H) (hD : va_D Az ws) (hS : va_S Az H0 H locs) (q0 t0 : Nat) {cA : ClassId} {n : Nat} {f f1 : Nat → Int64} (ha : ws[q0]? = some (a, .inl (cA, n, .inr (.inl f)))) (ht : tys[t0]? = some (cA, .long)) {i : Int32} {x : Int64} (hin : vp_in i n ∧ vp_updL f i.toNatClampNeg x = f1) (hn : ws.set q0 (a, .inl (cA, n, .inr (.inl f1))) = wn) (hdg : decode cc pc = .ok (.lastore, 1))
    (kk : ∀ (H1 : Heap) (locs1 : List Loc), va_P D cl wn H1 → va_D Az wn → va_S Az H0 H1 locs1 → W p l e R s m args below meth c H1 locs1 cells slots Q (F0 m (pc + 1) ls rest)) : W p l e R s m args below meth c H locs cells slots Q (F0 m pc ls (.long x :: .int i :: .ref a :: rest)) := by
  obtain ⟨h1, rfl⟩ := hin
  subst hn
  exact va_last hexec hb hK hP hD hS q0 t0 ha ht h1 hdg kk
theorem sh_idiv (hexec : p.tables.exec = Jvm.exec) (hb : c.code = cc) {x y v : Int32} (hv : ¬ y = 0 ∧ x / y = v) (hdg : decode cc pc = .ok (.idiv, 1))
    (k : W p l e R s m args below meth c H locs cells slots Q (F0 m (pc + 1) ls (.int v :: rest))) : W p l e R s m args below meth c H locs cells slots Q (F0 m pc ls (.int y :: .int x :: rest)) := by
  obtain ⟨h1, rfl⟩ := hv
  exact lv_idiv hexec hb hdg h1 k
theorem sh_irem (hexec : p.tables.exec = Jvm.exec) (hb : c.code = cc) {x y v : Int32} (hv : ¬ y = 0 ∧ x - x / y * y = v) (hdg : decode cc pc = .ok (.irem, 1))
    (k : W p l e R s m args below meth c H locs cells slots Q (F0 m (pc + 1) ls (.int v :: rest))) : W p l e R s m args below meth c H locs cells slots Q (F0 m pc ls (.int y :: .int x :: rest)) := by
  obtain ⟨h1, rfl⟩ := hv
  exact lv_irem hexec hb hdg h1 k
theorem sh_ldiv (hexec : p.tables.exec = Jvm.exec) (hb : c.code = cc) {x y v : Int64} (hv : ¬ y = 0 ∧ x / y = v) (hdg : decode cc pc = .ok (.ldiv, 1))
    (k : W p l e R s m args below meth c H locs cells slots Q (F0 m (pc + 1) ls (.long v :: rest))) : W p l e R s m args below meth c H locs cells slots Q (F0 m pc ls (.long y :: .long x :: rest)) := by
  obtain ⟨h1, rfl⟩ := hv
  exact lv_ldiv hexec hb hdg h1 k
theorem sh_lrem (hexec : p.tables.exec = Jvm.exec) (hb : c.code = cc) {x y v : Int64} (hv : ¬ y = 0 ∧ x - x / y * y = v) (hdg : decode cc pc = .ok (.lrem, 1))
    (k : W p l e R s m args below meth c H locs cells slots Q (F0 m (pc + 1) ls (.long v :: rest))) : W p l e R s m args below meth c H locs cells slots Q (F0 m pc ls (.long y :: .long x :: rest)) := by
  obtain ⟨h1, rfl⟩ := hv
  exact lv_lrem hexec hb hdg h1 k
/-! a comparison of longs and the branch behind it -/
theorem sh_leq (hexec : p.tables.exec = Jvm.exec) (hb : c.code = cc) {x y : Int64} {off : Int} {tgt : Nat} (hd1 : decode cc pc = .ok (.lcmp, 1)) (hdg : decode cc (pc + 1) = .ok (.ifCond .eq off, 3)) (ht : ((pc + 1 : Nat) : Int) + off = (tgt : Int))
    (kt : x = y → W p l e R s m args below meth c H locs cells slots Q (F0 m tgt ls rest)) (kf : ¬ x = y → W p l e R s m args below meth c H locs cells slots Q (F0 m (pc + 4) ls rest)) : W p l e R s m args below meth c H locs cells slots Q (F0 m pc ls (.long y :: .long x :: rest)) :=
  W.lcmp hexec hb hd1 (lv_if_eq hexec hb hdg ht (fun q => kt ((lg_cmp_eq x y).mp q)) (fun q => kf (fun z => q ((lg_cmp_eq x y).mpr z))))
theorem sh_lne (hexec : p.tables.exec = Jvm.exec) (hb : c.code = cc) {x y : Int64} {off : Int} {tgt : Nat} (hd1 : decode cc pc = .ok (.lcmp, 1)) (hdg : decode cc (pc + 1) = .ok (.ifCond .ne off, 3)) (ht : ((pc + 1 : Nat) : Int) + off = (tgt : Int))
    (kt : ¬ x = y → W p l e R s m args below meth c H locs cells slots Q (F0 m tgt ls rest)) (kf : x = y → W p l e R s m args below meth c H locs cells slots Q (F0 m (pc + 4) ls rest)) : W p l e R s m args below meth c H locs cells slots Q (F0 m pc ls (.long y :: .long x :: rest)) :=
  W.lcmp hexec hb hd1 (lv_if_ne hexec hb hdg ht (fun q => kt (fun z => q ((lg_cmp_eq x y).mpr z))) (fun q => kf ((lg_cmp_eq x y).mp q)))
theorem sh_llt (hexec : p.tables.exec = Jvm.exec) (hb : c.code = cc) {x y : Int64} {off : Int} {tgt : Nat} (hd1 : decode cc pc = .ok (.lcmp, 1)) (hdg : decode cc (pc + 1) = .ok (.ifCond .lt off, 3)) (ht : ((pc + 1 : Nat) : Int) + off = (tgt : Int))
    (kt : x < y → W p l e R s m args below meth c H locs cells slots Q (F0 m tgt ls rest)) (kf : ¬ x < y → W p l e R s m args below meth c H locs cells slots Q (F0 m (pc + 4) ls rest)) : W p l e R s m args below meth c H locs cells slots Q (F0 m pc ls (.long y :: .long x :: rest)) :=
  W.lcmp hexec hb hd1 (lv_if_lt hexec hb hdg ht (fun q => kt ((lg_cmp_lt x y).mp q)) (fun q => kf (fun z => q ((lg_cmp_lt x y).mpr z))))
theorem sh_lge (hexec : p.tables.exec = Jvm.exec) (hb : c.code = cc) {x y : Int64} {off : Int} {tgt : Nat} (hd1 : decode cc pc = .ok (.lcmp, 1)) (hdg : decode cc (pc + 1) = .ok (.ifCond .ge off, 3)) (ht : ((pc + 1 : Nat) : Int) + off = (tgt : Int))
    (kt : y ≤ x → W p l e R s m args below meth c H locs cells slots Q (F0 m tgt ls rest)) (kf : ¬ y ≤ x → W p l e R s m args below meth c H locs cells slots Q (F0 m (pc + 4) ls rest)) : W p l e R s m args below meth c H locs cells slots Q (F0 m pc ls (.long y :: .long x :: rest)) :=
  W.lcmp hexec hb hd1 (lv_if_ge hexec hb hdg ht (fun q => kt ((lg_cmp_ge x y).mp q)) (fun q => kf (fun z => q ((lg_cmp_ge x y).mpr z))))
theorem sh_lgt (hexec : p.tables.exec = Jvm.exec) (hb : c.code = cc) {x y : Int64} {off : Int} {tgt : Nat} (hd1 : decode cc pc = .ok (.lcmp, 1)) (hdg : decode cc (pc + 1) = .ok (.ifCond .gt off, 3)) (ht : ((pc + 1 : Nat) : Int) + off = (tgt : Int))
    (kt : y < x → W p l e R s m args below meth c H locs cells slots Q (F0 m tgt ls rest)) (kf : ¬ y < x → W p l e R s m args below meth c H locs cells slots Q (F0 m (pc + 4) ls rest)) : W p l e R s m args below meth c H locs cells slots Q (F0 m pc ls (.long y :: .long x :: rest)) :=
  W.lcmp hexec hb hd1 (lv_if_gt hexec hb hdg ht (fun q => kt ((lg_cmp_gt x y).mp q)) (fun q => kf (fun z => q ((lg_cmp_gt x y).mpr z))))
theorem sh_lle (hexec : p.tables.exec = Jvm.exec) (hb : c.code = cc) {x y : Int64} {off : Int} {tgt : Nat} (hd1 : decode cc pc = .ok (.lcmp, 1)) (hdg : decode cc (pc + 1) = .ok (.ifCond .le off, 3)) (ht : ((pc + 1 : Nat) : Int) + off = (tgt : Int))
    (kt : x ≤ y → W p l e R s m args below meth c H locs cells slots Q (F0 m tgt ls rest)) (kf : ¬ x ≤ y → W p l e R s m args below meth c H locs cells slots Q (F0 m (pc + 4) ls rest)) : W p l e R s m args below meth c H locs cells slots Q (F0 m pc ls (.long y :: .long x :: rest)) :=
  W.lcmp hexec hb hd1 (lv_if_le hexec hb hdg ht (fun q => kt ((lg_cmp_le x y).mp q)) (fun q => kf (fun z => q ((lg_cmp_le x y).mpr z))))
/-! a reading method's end -/
theorem sh_roi {o v : Int32} (hexec : p.tables.exec = Jvm.exec) (hb : c.code = cc) (hr : meth.sig.returnType = some .int) (hlocks : meth.locks = false) (hQ : MQ below (vp_Si (fun z => z = o)) args s 0 0 (fun _ => False) = Q) (ho : v = o) (hdg : decode cc pc = .ok (.ireturn, 1)) : W p l e R s m args below meth c s.heap [] 0 0 Q (F0 m pc ls [.int v]) := by
  subst hQ
  exact W.iret hexec hb hr (fun t ht hW => ⟨v, rfl, ho, ht⟩) (fun q h => nomatch h) hdg
theorem sh_roz {o v : Int32} (hexec : p.tables.exec = Jvm.exec) (hb : c.code = cc) (hr : meth.sig.returnType = some .boolean) (hlocks : meth.locks = false) (hQ : MQ below (vp_Si (fun z => z = o)) args s 0 0 (fun _ => False) = Q) (ho : narrow .boolean (.int v) = .int v ∧ v = o) (hdg : decode cc pc = .ok (.ireturn, 1)) : W p l e R s m args below meth c s.heap [] 0 0 Q (F0 m pc ls [.int v]) := by
  subst hQ
  exact W.zret hexec hb hr ho.1 (fun t ht hW => ⟨v, rfl, ho.2, ht⟩) (fun q h => nomatch h) hdg
theorem sh_rol {o v : Int64} (hexec : p.tables.exec = Jvm.exec) (hb : c.code = cc) (hr : meth.sig.returnType = some .long) (hlocks : meth.locks = false) (hQ : MQ below (vp_Sl (fun z => z = o)) args s 0 0 (fun _ => False) = Q) (ho : v = o) (hdg : decode cc pc = .ok (.lreturn, 1)) : W p l e R s m args below meth c s.heap [] 0 0 Q (F0 m pc ls [.long v]) := by
  subst hQ
  exact W.lret hexec hb hr (fun t ht hW => ⟨v, rfl, ho, ht⟩) (fun q h => nomatch h) hdg
/-! a writing method's end -/
theorem sh_rwi {o : Int32} (hexec : p.tables.exec = Jvm.exec) (hb : c.code = cc) (hr : meth.sig.returnType = some .int) (hlocks : meth.locks = false) (hQ : MQ below (sh_Qi D tys Az w1 o) args s cells slots Az = Q) (hK : va_K D vwCl tys s) (hP : va_P D vwCl w1 H) (hD : va_D Az w1) (hS : va_S Az s.heap H locs) (hdg : decode cc pc = .ok (.ireturn, 1)) : W p l e R s m args below meth c H locs cells slots Q (F0 m pc ls [.int o]) := by
  subst hQ
  exact W.iret hexec hb hr (fun t ht hW => ⟨⟨o, (), rfl, rfl, by rw [ht]; exact hP, va_K.moved hW.alike hK, hD⟩, hS.F ht⟩) hS.2.2 hdg
theorem sh_rwz {o : Int32} (hexec : p.tables.exec = Jvm.exec) (hb : c.code = cc) (hr : meth.sig.returnType = some .boolean) (hlocks : meth.locks = false) (hQ : MQ below (sh_Qi D tys Az w1 o) args s cells slots Az = Q) (hn : narrow .boolean (.int o) = .int o) (hK : va_K D vwCl tys s) (hP : va_P D vwCl w1 H) (hD : va_D Az w1) (hS : va_S Az s.heap H locs) (hdg : decode cc pc = .ok (.ireturn, 1)) : W p l e R s m args below meth c H locs cells slots Q (F0 m pc ls [.int o]) := by
  subst hQ
  exact W.zret hexec hb hr hn (fun t ht hW => ⟨⟨o, (), rfl, rfl, by rw [ht]; exact hP, va_K.moved hW.alike hK, hD⟩, hS.F ht⟩) hS.2.2 hdg
theorem sh_rwl {o : Int64} (hexec : p.tables.exec = Jvm.exec) (hb : c.code = cc) (hr : meth.sig.returnType = some .long) (hlocks : meth.locks = false) (hQ : MQ below (sh_Ql D tys Az w1 o) args s cells slots Az = Q) (hK : va_K D vwCl tys s) (hP : va_P D vwCl w1 H) (hD : va_D Az w1) (hS : va_S Az s.heap H locs) (hdg : decode cc pc = .ok (.lreturn, 1)) : W p l e R s m args below meth c H locs cells slots Q (F0 m pc ls [.long o]) := by
  subst hQ
  exact W.lret hexec hb hr (fun t ht hW => ⟨⟨o, (), rfl, rfl, by rw [ht]; exact hP, va_K.moved hW.alike hK, hD⟩, hS.F ht⟩) hS.2.2 hdg
theorem sh_rwv (hexec : p.tables.exec = Jvm.exec) (hb : c.code = cc) (hr : meth.sig.returnType = none) (hlocks : meth.locks = false) (hQ : MQ below (sh_Qv D tys Az w1) args s cells slots Az = Q) (hK : va_K D vwCl tys s) (hP : va_P D vwCl w1 H) (hD : va_D Az w1) (hS : va_S Az s.heap H locs) (hdg : decode cc pc = .ok (.return_, 1)) : W p l e R s m args below meth c H locs cells slots Q (F0 m pc ls []) := by
  subst hQ
  exact W.vret hexec hb hr (fun t ht hW => ⟨⟨(), rfl, trivial, by rw [ht]; exact hP, va_K.moved hW.alike hK, hD⟩, hS.F ht⟩) hS.2.2 hdg
/-! calls of reading methods -/
theorem sh_cSi {r : Int32} (S : CallFix p m c cc nL s args Ts own) (hM : Met l y wy rm (sh_Pr D tys wc As) (vp_Si (fun z => z = r)) 0 0 (fun _ => False)) (cw : CallB R s args own index y bytes maxL ret wy rm 0 0 n ∧ (Cond.static y).before args s = true) (hP : va_P D vwCl ws H) (hK : va_K D vwCl tys s) (isC : List Nat) (hC : isC.filterMap (fun i => ws[i]?) = wc)
    (hn : As.length = n) (hsz : ls.size = nL) (hst : st0 = As.reverse ++ rest) (hW : (rest.map fun v => v.category).sum ≤ 8) (hdg : decode cc pc = .ok (.invokestatic index, 3)) (hf : cells ≤ R.cells ∧ slots ≤ R.slots)
    (kk : W p l e R s m args below meth c H locs cells slots Q (F0 m (pc + 3) ls (.int r :: rest))) : W p l e R s m args below meth c H locs cells slots Q (F0 m pc ls st0) := by
  refine vp_callSi (W.runS (As := As) (rest := rest) S hM cw ⟨sh_blr, fun U hU hW => ⟨rfl, by rw [hU]; exact hP.sub isC hC, va_K.moved hW.alike hK⟩⟩ rfl hn hsz hst (lv_room hW) hdg hf) (fun z hz => ?_)
  subst hz
  exact kk
theorem sh_cSl {r : Int64} (S : CallFix p m c cc nL s args Ts own) (hM : Met l y wy rm (sh_Pr D tys wc As) (vp_Sl (fun z => z = r)) 0 0 (fun _ => False)) (cw : CallB R s args own index y bytes maxL ret wy rm 0 0 n ∧ (Cond.static y).before args s = true) (hP : va_P D vwCl ws H) (hK : va_K D vwCl tys s) (isC : List Nat) (hC : isC.filterMap (fun i => ws[i]?) = wc)
    (hn : As.length = n) (hsz : ls.size = nL) (hst : st0 = As.reverse ++ rest) (hW : (rest.map fun v => v.category).sum ≤ 8) (hdg : decode cc pc = .ok (.invokestatic index, 3)) (hf : cells ≤ R.cells ∧ slots ≤ R.slots)
    (kk : W p l e R s m args below meth c H locs cells slots Q (F0 m (pc + 3) ls (.long r :: rest))) : W p l e R s m args below meth c H locs cells slots Q (F0 m pc ls st0) := by
  refine vp_callSl (W.runS (As := As) (rest := rest) S hM cw ⟨sh_blr, fun U hU hW => ⟨rfl, by rw [hU]; exact hP.sub isC hC, va_K.moved hW.alike hK⟩⟩ rfl hn hsz hst (lv_room hW) hdg hf) (fun z hz => ?_)
  subst hz
  exact kk
theorem sh_cVi {r : Int32} (S : CallFix p m c cc nL s args Ts own) (hM : Met l y wy rm (sh_Pr D tys wc (.ref b :: As)) (vp_Si (fun z => z = r)) 0 0 (fun _ => False)) (cw : CallW R s args own C index y bytes maxL ret wy rm 0 0 n) (hP : va_P D vwCl ws H) (hK : va_K D vwCl tys s) (isC : List Nat) (hC : isC.filterMap (fun i => ws[i]?) = wc)
    (q0 : Nat) {ci : Nat} {fs : List Value} {T : u_T} {N : Nat} (he : ws[q0]? = some (b, .inr (ci, fs))) (hc : vwCl[ci]? = some (C, T, N))
    (hn : As.length = n) (hsz : ls.size = nL) (hst : st0 = As.reverse ++ .ref b :: rest) (hW : (rest.map fun v => v.category).sum ≤ 8) (hdg : decode cc pc = .ok (.invokevirtual index, 3)) (hf : cells ≤ R.cells ∧ slots ≤ R.slots)
    (kk : W p l e R s m args below meth c H locs cells slots Q (F0 m (pc + 3) ls (.int r :: rest))) : W p l e R s m args below meth c H locs cells slots Q (F0 m pc ls st0) := by
  refine vp_callSi (W.runV (As := As) (rest := rest) S hM cw ⟨sh_blr, va_recv hK hP hc he, fun U hU hW => ⟨rfl, by rw [hU]; exact hP.sub isC hC, va_K.moved hW.alike hK⟩⟩ rfl hn hsz hst (lv_room hW) hdg hf) (fun z hz => ?_)
  subst hz
  exact kk
theorem sh_cVl {r : Int64} (S : CallFix p m c cc nL s args Ts own) (hM : Met l y wy rm (sh_Pr D tys wc (.ref b :: As)) (vp_Sl (fun z => z = r)) 0 0 (fun _ => False)) (cw : CallW R s args own C index y bytes maxL ret wy rm 0 0 n) (hP : va_P D vwCl ws H) (hK : va_K D vwCl tys s) (isC : List Nat) (hC : isC.filterMap (fun i => ws[i]?) = wc)
    (q0 : Nat) {ci : Nat} {fs : List Value} {T : u_T} {N : Nat} (he : ws[q0]? = some (b, .inr (ci, fs))) (hc : vwCl[ci]? = some (C, T, N))
    (hn : As.length = n) (hsz : ls.size = nL) (hst : st0 = As.reverse ++ .ref b :: rest) (hW : (rest.map fun v => v.category).sum ≤ 8) (hdg : decode cc pc = .ok (.invokevirtual index, 3)) (hf : cells ≤ R.cells ∧ slots ≤ R.slots)
    (kk : W p l e R s m args below meth c H locs cells slots Q (F0 m (pc + 3) ls (.long r :: rest))) : W p l e R s m args below meth c H locs cells slots Q (F0 m pc ls st0) := by
  refine vp_callSl (W.runV (As := As) (rest := rest) S hM cw ⟨sh_blr, va_recv hK hP hc he, fun U hU hW => ⟨rfl, by rw [hU]; exact hP.sub isC hC, va_K.moved hW.alike hK⟩⟩ rfl hn hsz hst (lv_room hW) hdg hf) (fun z hz => ?_)
  subst hz
  exact kk
/-! calls of writing methods -/
theorem sh_after (hP : va_P D vwCl ws H) (hD : va_D Az ws) (isC isR isN : List Nat) (hC : isC.map (fun i => ws[i]?) = wc.map some) (hR : isR.map (fun i => ws[i]?) = (isR.filterMap (fun i => ws[i]?)).map some) (hnd : (va_nd isR && va_nd isN && isR.all (fun i => !isC.contains i)) = true) (hN : isN.map (fun i => (isR.filterMap (fun i => ws[i]?) ++ w1)[i]?) = wn.map some) (hN2 : isN.filterMap (fun i => (isR.filterMap (fun i => ws[i]?) ++ w1)[i]?) = wn)
    {H1 : Heap} (hk : ∀ q : Nat, q < H.size → ¬ va_A wc H.size q → H1[q]? = H[q]?) (hF : ∀ q, va_A wc H.size q → Az q) (hP1 : va_P D vwCl w1 H1) (hD1 : va_D (va_A wc H.size) w1) : va_P D vwCl wn H1 ∧ va_D Az wn := by
  simp only [Bool.and_eq_true] at hnd
  obtain ⟨⟨h1, h2⟩, h3⟩ := hnd
  obtain ⟨hP2, hD2⟩ := va_join hP hD isC isR hC hR h1 (fun i hi hc => by have h4 := List.all_eq_true.mp h3 i hi; simp [hc] at h4) hk hF hP1 hD1
  exact ⟨hP2.sub isN hN2, hD2.sub isN h2 hN⟩
theorem sh_wSi {r : Int32} (S : CallFix p m c cc nL s args Ts own) (hM : Met l y wy rm (sh_Pw D tys H.size wc As) (sh_Qi D tys (va_A wc H.size) w1 r) 0 0 (va_A wc H.size)) (cw : CallB R s args own index y bytes maxL ret wy rm 0 0 n ∧ (Cond.static y).before args s = true) (hP : va_P D vwCl ws H) (hK : va_K D vwCl tys s) (hD : va_D Az ws) (hS : va_S Az H0 H locs) (hA : ∀ q, H0.size ≤ q → Az q)
    (isC isR isN : List Nat) (hC : isC.map (fun i => ws[i]?) = wc.map some) (hC2 : isC.filterMap (fun i => ws[i]?) = wc) (hndC : va_nd isC = true) (hR : isR.map (fun i => ws[i]?) = (isR.filterMap (fun i => ws[i]?)).map some) (hnd : (va_nd isR && va_nd isN && isR.all (fun i => !isC.contains i)) = true) (hN : isN.map (fun i => (isR.filterMap (fun i => ws[i]?) ++ w1)[i]?) = wn.map some) (hN2 : isN.filterMap (fun i => (isR.filterMap (fun i => ws[i]?) ++ w1)[i]?) = wn)
    (hn : As.length = n) (hsz : ls.size = nL) (hst : st0 = As.reverse ++ rest) (hW : (rest.map fun v => v.category).sum ≤ 8) (hdg : decode cc pc = .ok (.invokestatic index, 3)) (hf : cells ≤ R.cells ∧ slots ≤ R.slots)
    (kk : ∀ (H1 : Heap) (locs1 : List Loc), va_P D vwCl wn H1 → va_D Az wn → va_S Az H0 H1 locs1 → W p l e R s m args below meth c H1 locs1 cells slots Q (F0 m (pc + 3) ls (.int r :: rest))) : W p l e R s m args below meth c H locs cells slots Q (F0 m pc ls st0) := by
  have hFc := va_free (wc := wc) hD hS hA isC hC
  have hDc := (hD.sub isC hndC hC).weaken (B := fun _ => True) (fun _ _ _ _ => trivial)
  refine va_calli (va_runS (As := As) (rest := rest) S hM cw ⟨sh_blw, fun U hU hW => ⟨rfl, by rw [hU], by rw [hU]; exact hP.sub isC hC2, va_K.moved hW.alike hK, hDc⟩⟩ rfl hn hsz hst (lv_room hW) hdg hf) hS (fun q _ h => hFc q h) hFc (fun z u t H1 locs1 ht hvm hw hB hz1 hk1 hS1 => ?_)
  subst hw
  obtain ⟨hP1, hK1, hD1⟩ := hB
  rw [ht] at hP1
  obtain ⟨hP2, hD2⟩ := sh_after hP hD isC isR isN hC hR hnd hN hN2 hk1 hFc hP1 hD1
  exact kk H1 locs1 hP2 hD2 hS1
theorem sh_wSv (S : CallFix p m c cc nL s args Ts own) (hM : Met l y wy rm (sh_Pw D tys H.size wc As) (sh_Qv D tys (va_A wc H.size) w1) 0 0 (va_A wc H.size)) (cw : CallB R s args own index y bytes maxL ret wy rm 0 0 n ∧ (Cond.static y).before args s = true) (hP : va_P D vwCl ws H) (hK : va_K D vwCl tys s) (hD : va_D Az ws) (hS : va_S Az H0 H locs) (hA : ∀ q, H0.size ≤ q → Az q)
    (isC isR isN : List Nat) (hC : isC.map (fun i => ws[i]?) = wc.map some) (hC2 : isC.filterMap (fun i => ws[i]?) = wc) (hndC : va_nd isC = true) (hR : isR.map (fun i => ws[i]?) = (isR.filterMap (fun i => ws[i]?)).map some) (hnd : (va_nd isR && va_nd isN && isR.all (fun i => !isC.contains i)) = true) (hN : isN.map (fun i => (isR.filterMap (fun i => ws[i]?) ++ w1)[i]?) = wn.map some) (hN2 : isN.filterMap (fun i => (isR.filterMap (fun i => ws[i]?) ++ w1)[i]?) = wn)
    (hn : As.length = n) (hsz : ls.size = nL) (hst : st0 = As.reverse ++ rest) (hW : (rest.map fun v => v.category).sum ≤ 8) (hdg : decode cc pc = .ok (.invokestatic index, 3)) (hf : cells ≤ R.cells ∧ slots ≤ R.slots)
    (kk : ∀ (H1 : Heap) (locs1 : List Loc), va_P D vwCl wn H1 → va_D Az wn → va_S Az H0 H1 locs1 → W p l e R s m args below meth c H1 locs1 cells slots Q (F0 m (pc + 3) ls rest)) : W p l e R s m args below meth c H locs cells slots Q (F0 m pc ls st0) := by
  have hFc := va_free (wc := wc) hD hS hA isC hC
  have hDc := (hD.sub isC hndC hC).weaken (B := fun _ => True) (fun _ _ _ _ => trivial)
  refine va_callv (va_runS (As := As) (rest := rest) S hM cw ⟨sh_blw, fun U hU hW => ⟨rfl, by rw [hU], by rw [hU]; exact hP.sub isC hC2, va_K.moved hW.alike hK, hDc⟩⟩ rfl hn hsz hst (lv_room hW) hdg hf) hS (fun q _ h => hFc q h) hFc (fun u t H1 locs1 ht hvm hw hB hz1 hk1 hS1 => ?_)
  obtain ⟨hP1, hK1, hD1⟩ := hB
  rw [ht] at hP1
  obtain ⟨hP2, hD2⟩ := sh_after hP hD isC isR isN hC hR hnd hN hN2 hk1 hFc hP1 hD1
  exact kk H1 locs1 hP2 hD2 hS1
theorem sh_wVi {r : Int32} (S : CallFix p m c cc nL s args Ts own) (hM : Met l y wy rm (sh_Pw D tys H.size wc (.ref b :: As)) (sh_Qi D tys (va_A wc H.size) w1 r) 0 0 (va_A wc H.size)) (cw : CallW R s args own C index y bytes maxL ret wy rm 0 0 n) (hP : va_P D vwCl ws H) (hK : va_K D vwCl tys s) (hD : va_D Az ws) (hS : va_S Az H0 H locs) (hA : ∀ q, H0.size ≤ q → Az q)
    (isC isR isN : List Nat) (hC : isC.map (fun i => ws[i]?) = wc.map some) (hC2 : isC.filterMap (fun i => ws[i]?) = wc) (hndC : va_nd isC = true) (hR : isR.map (fun i => ws[i]?) = (isR.filterMap (fun i => ws[i]?)).map some) (hnd : (va_nd isR && va_nd isN && isR.all (fun i => !isC.contains i)) = true) (hN : isN.map (fun i => (isR.filterMap (fun i => ws[i]?) ++ w1)[i]?) = wn.map some) (hN2 : isN.filterMap (fun i => (isR.filterMap (fun i => ws[i]?) ++ w1)[i]?) = wn)
    (q0 : Nat) {ci : Nat} {fs : List Value} {T : u_T} {N : Nat} (he : ws[q0]? = some (b, .inr (ci, fs))) (hc : vwCl[ci]? = some (C, T, N))
    (hn : As.length = n) (hsz : ls.size = nL) (hst : st0 = As.reverse ++ .ref b :: rest) (hW : (rest.map fun v => v.category).sum ≤ 8) (hdg : decode cc pc = .ok (.invokevirtual index, 3)) (hf : cells ≤ R.cells ∧ slots ≤ R.slots)
    (kk : ∀ (H1 : Heap) (locs1 : List Loc), va_P D vwCl wn H1 → va_D Az wn → va_S Az H0 H1 locs1 → W p l e R s m args below meth c H1 locs1 cells slots Q (F0 m (pc + 3) ls (.int r :: rest))) : W p l e R s m args below meth c H locs cells slots Q (F0 m pc ls st0) := by
  have hFc := va_free (wc := wc) hD hS hA isC hC
  have hDc := (hD.sub isC hndC hC).weaken (B := fun _ => True) (fun _ _ _ _ => trivial)
  refine va_calli (va_runV (As := As) (rest := rest) S hM cw ⟨sh_blw, va_recv hK hP hc he, fun U hU hW => ⟨rfl, by rw [hU], by rw [hU]; exact hP.sub isC hC2, va_K.moved hW.alike hK, hDc⟩⟩ rfl hn hsz hst (lv_room hW) hdg hf) hS (fun q _ h => hFc q h) hFc (fun z u t H1 locs1 ht hvm hw hB hz1 hk1 hS1 => ?_)
  subst hw
  obtain ⟨hP1, hK1, hD1⟩ := hB
  rw [ht] at hP1
  obtain ⟨hP2, hD2⟩ := sh_after hP hD isC isR isN hC hR hnd hN hN2 hk1 hFc hP1 hD1
  exact kk H1 locs1 hP2 hD2 hS1
theorem sh_wVl {r : Int64} (S : CallFix p m c cc nL s args Ts own) (hM : Met l y wy rm (sh_Pw D tys H.size wc (.ref b :: As)) (sh_Ql D tys (va_A wc H.size) w1 r) 0 0 (va_A wc H.size)) (cw : CallW R s args own C index y bytes maxL ret wy rm 0 0 n) (hP : va_P D vwCl ws H) (hK : va_K D vwCl tys s) (hD : va_D Az ws) (hS : va_S Az H0 H locs) (hA : ∀ q, H0.size ≤ q → Az q)
    (isC isR isN : List Nat) (hC : isC.map (fun i => ws[i]?) = wc.map some) (hC2 : isC.filterMap (fun i => ws[i]?) = wc) (hndC : va_nd isC = true) (hR : isR.map (fun i => ws[i]?) = (isR.filterMap (fun i => ws[i]?)).map some) (hnd : (va_nd isR && va_nd isN && isR.all (fun i => !isC.contains i)) = true) (hN : isN.map (fun i => (isR.filterMap (fun i => ws[i]?) ++ w1)[i]?) = wn.map some) (hN2 : isN.filterMap (fun i => (isR.filterMap (fun i => ws[i]?) ++ w1)[i]?) = wn)
    (q0 : Nat) {ci : Nat} {fs : List Value} {T : u_T} {N : Nat} (he : ws[q0]? = some (b, .inr (ci, fs))) (hc : vwCl[ci]? = some (C, T, N))
    (hn : As.length = n) (hsz : ls.size = nL) (hst : st0 = As.reverse ++ .ref b :: rest) (hW : (rest.map fun v => v.category).sum ≤ 8) (hdg : decode cc pc = .ok (.invokevirtual index, 3)) (hf : cells ≤ R.cells ∧ slots ≤ R.slots)
    (kk : ∀ (H1 : Heap) (locs1 : List Loc), va_P D vwCl wn H1 → va_D Az wn → va_S Az H0 H1 locs1 → W p l e R s m args below meth c H1 locs1 cells slots Q (F0 m (pc + 3) ls (.long r :: rest))) : W p l e R s m args below meth c H locs cells slots Q (F0 m pc ls st0) := by
  have hFc := va_free (wc := wc) hD hS hA isC hC
  have hDc := (hD.sub isC hndC hC).weaken (B := fun _ => True) (fun _ _ _ _ => trivial)
  refine va_calll (va_runV (As := As) (rest := rest) S hM cw ⟨sh_blw, va_recv hK hP hc he, fun U hU hW => ⟨rfl, by rw [hU], by rw [hU]; exact hP.sub isC hC2, va_K.moved hW.alike hK, hDc⟩⟩ rfl hn hsz hst (lv_room hW) hdg hf) hS (fun q _ h => hFc q h) hFc (fun z u t H1 locs1 ht hvm hw hB hz1 hk1 hS1 => ?_)
  subst hw
  obtain ⟨hP1, hK1, hD1⟩ := hB
  rw [ht] at hP1
  obtain ⟨hP2, hD2⟩ := sh_after hP hD isC isR isN hC hR hnd hN hN2 hk1 hFc hP1 hD1
  exact kk H1 locs1 hP2 hD2 hS1
theorem sh_wVv (S : CallFix p m c cc nL s args Ts own) (hM : Met l y wy rm (sh_Pw D tys H.size wc (.ref b :: As)) (sh_Qv D tys (va_A wc H.size) w1) 0 0 (va_A wc H.size)) (cw : CallW R s args own C index y bytes maxL ret wy rm 0 0 n) (hP : va_P D vwCl ws H) (hK : va_K D vwCl tys s) (hD : va_D Az ws) (hS : va_S Az H0 H locs) (hA : ∀ q, H0.size ≤ q → Az q)
    (isC isR isN : List Nat) (hC : isC.map (fun i => ws[i]?) = wc.map some) (hC2 : isC.filterMap (fun i => ws[i]?) = wc) (hndC : va_nd isC = true) (hR : isR.map (fun i => ws[i]?) = (isR.filterMap (fun i => ws[i]?)).map some) (hnd : (va_nd isR && va_nd isN && isR.all (fun i => !isC.contains i)) = true) (hN : isN.map (fun i => (isR.filterMap (fun i => ws[i]?) ++ w1)[i]?) = wn.map some) (hN2 : isN.filterMap (fun i => (isR.filterMap (fun i => ws[i]?) ++ w1)[i]?) = wn)
    (q0 : Nat) {ci : Nat} {fs : List Value} {T : u_T} {N : Nat} (he : ws[q0]? = some (b, .inr (ci, fs))) (hc : vwCl[ci]? = some (C, T, N))
    (hn : As.length = n) (hsz : ls.size = nL) (hst : st0 = As.reverse ++ .ref b :: rest) (hW : (rest.map fun v => v.category).sum ≤ 8) (hdg : decode cc pc = .ok (.invokevirtual index, 3)) (hf : cells ≤ R.cells ∧ slots ≤ R.slots)
    (kk : ∀ (H1 : Heap) (locs1 : List Loc), va_P D vwCl wn H1 → va_D Az wn → va_S Az H0 H1 locs1 → W p l e R s m args below meth c H1 locs1 cells slots Q (F0 m (pc + 3) ls rest)) : W p l e R s m args below meth c H locs cells slots Q (F0 m pc ls st0) := by
  have hFc := va_free (wc := wc) hD hS hA isC hC
  have hDc := (hD.sub isC hndC hC).weaken (B := fun _ => True) (fun _ _ _ _ => trivial)
  refine va_callv (va_runV (As := As) (rest := rest) S hM cw ⟨sh_blw, va_recv hK hP hc he, fun U hU hW => ⟨rfl, by rw [hU], by rw [hU]; exact hP.sub isC hC2, va_K.moved hW.alike hK, hDc⟩⟩ rfl hn hsz hst (lv_room hW) hdg hf) hS (fun q _ h => hFc q h) hFc (fun u t H1 locs1 ht hvm hw hB hz1 hk1 hS1 => ?_)
  obtain ⟨hP1, hK1, hD1⟩ := hB
  rw [ht] at hP1
  obtain ⟨hP2, hD2⟩ := sh_after hP hD isC isR isN hC hR hnd hN hN2 hk1 hFc hP1 hD1
  exact kk H1 locs1 hP2 hD2 hS1
theorem sh_put (hexec : p.tables.exec = Jvm.exec) (hb : c.code = cc) {own ref C : String} {T : u_T} {N ci index : Nat} {Ts : List Cond} (hts : ∀ w ∈ Ts, w.before args s = true) (hin : ∀ w ∈ u_ws C T N, w ∈ Ts) (ty0 : Nat → FieldType) (hty : ∀ k, k < N → parseFieldDescriptor (T k).2.2.1 = some (ty0 k)) (hnm : ∀ a, a < N → ∀ b, b < N → a ≠ b → (T a).2.1 ≠ (T b).2.1) (hown : s.vm.findClass own = some m.cls) (hK : va_K D cl tys s) (hP : va_P D cl ws H) (hD : va_D Az ws) (hS0 : va_S Az H0 H locs) (q0 : Nat) {fs : List Value} (he : ws[q0]? = some (a, .inr (ci, fs))) (hc : cl[ci]? = some (C, T, N)) (k : Nat) (hk : k < N) (hlink : (Cond.fieldLink own index ref (T k).2.1 (T k).2.2.1).before args s = true) (hsame : ∀ x, s.fieldFound? (T k).1 (T k).2.1 (T k).2.2.1 = some x → s.fieldFound? ref (T k).2.1 (T k).2.2.1 = some x) (hfin : (T k).2.2.2 = false) {ty : FieldType} {v : Value} (hd : parseFieldDescriptor (T k).2.2.1 = some ty) (hn : narrow ty v = v) (hfit : fits ty v = true) (hl : k < fs.length) (hw : ws.set q0 (a, .inr (ci, fs.set k v)) = wn)
    (hdg : decode cc pc = .ok (.putfield index, 3)) (kk : ∀ (H1 : Heap) (locs1 : List Loc), va_P D cl wn H1 → va_D Az wn → va_S Az H0 H1 locs1 → W p l e R s m args below meth c H1 locs1 cells slots Q (F0 m (pc + 3) ls rest)) : W p l e R s m args below meth c H locs cells slots Q (F0 m pc ls (v :: .ref a :: rest)) := by
  subst hw
  exact va_put hexec hb hts hin ty0 hty hnm hown hK hP hD hS0 q0 he hc k hk hlink hsame hfin hd hn hfit hl hdg kk
theorem sh_copyl (hexec : p.tables.exec = Jvm.exec) (hb : c.code = cc) (hml : c.maxLocals = ls.size) {own : String} {index : Nat} (hown : s.vm.findClass own = some m.cls) (hlink : (Cond.methodLink own index arraycopyName).before args s = true) (hnat : (Cond.native arraycopyName).before args s = true) (hstat : (Cond.static arraycopyName).before args s = true) (hini : (Cond.initialized "java/lang/System").before args s = true)
    (hK : va_K D cl tys s) (hP : va_P D cl ws H) (hD : va_D Az ws) (hS : va_S Az H0 H locs) (q0 q1 t0 : Nat) {a0 : Nat} {c0 : ClassId} {n0 n1 : Nat} {f g f1 : Nat → Int64} (ha0 : ws[q0]? = some (a0, .inl (c0, n0, .inr (.inl f)))) (ha1 : ws[q1]? = some (a, .inl (c0, n1, .inr (.inl g)))) (ht0 : tys[t0]? = some (c0, .long))
    {sp dp n : Int32} (h0 : (¬ sp < 0 ∧ ¬ dp < 0 ∧ ¬ n < 0 ∧ sp.toNatClampNeg + n.toNatClampNeg ≤ n0 ∧ dp.toNatClampNeg + n.toNatClampNeg ≤ n1) ∧ va_cpy f g sp.toNatClampNeg dp.toNatClampNeg n.toNatClampNeg = f1) (hw : ws.set q1 (a, .inl (c0, n1, .inr (.inl f1))) = wn)
    (hframes : 1 ≤ R.frames) (hlocals : (rest.map fun v => v.category).sum + (nativeFrameWords "java/lang/System" "arraycopy" 5 + 11) ≤ R.locals) (hdg : decode cc pc = .ok (.invokestatic index, 3))
    (kk : ∀ (H1 : Heap) (locs1 : List Loc), va_P D cl wn H1 → va_D Az wn → va_S Az H0 H1 locs1 → W p l e R s m args below meth c H1 locs1 cells slots Q (F0 m (pc + 3) ls rest)) : W p l e R s m args below meth c H locs cells slots Q (F0 m pc ls (.int n :: .int dp :: .ref a :: .int sp :: .ref a0 :: rest)) := by
  obtain ⟨⟨h1, h2, h3, h4, h5⟩, rfl⟩ := h0
  subst hw
  exact va_copyl hexec hb hml hown hlink hnat hstat hini hK hP hD hS q0 q1 t0 t0 ha0 ha1 ht0 ht0 rfl h1 h2 h3 h4 h5 (fun _ _ => rfl) hframes hlocals hdg kk
/-! calls of reading methods that ask for a word of the nest -/
theorem sh_cVin {r : Int32} {na : String} {ni : Nat} {nx : MethodName} {nh : String} (S : CallFix p m c cc nL s args Ts own) (hM : Met l y wy rm (sh_Pn (.methodLinkNest na ni nx nh) (sh_Pr D tys wc (.ref b :: As))) (vp_Si (fun z => z = r)) 0 0 (fun _ => False)) (cw : CallW R s args own C index y bytes maxL ret wy rm 0 0 n) (hnw : va_Nw (.methodLinkNest na ni nx nh) s) (hP : va_P D vwCl ws H) (hK : va_K D vwCl tys s) (isC : List Nat) (hC : isC.filterMap (fun i => ws[i]?) = wc)
    (q0 : Nat) {ci : Nat} {fs : List Value} {T : u_T} {N : Nat} (he : ws[q0]? = some (b, .inr (ci, fs))) (hc : vwCl[ci]? = some (C, T, N))
    (hn : As.length = n) (hsz : ls.size = nL) (hst : st0 = As.reverse ++ .ref b :: rest) (hW : (rest.map fun v => v.category).sum ≤ 8) (hdg : decode cc pc = .ok (.invokevirtual index, 3)) (hf : cells ≤ R.cells ∧ slots ≤ R.slots)
    (kk : W p l e R s m args below meth c H locs cells slots Q (F0 m (pc + 3) ls (.int r :: rest))) : W p l e R s m args below meth c H locs cells slots Q (F0 m pc ls st0) := by
  refine vp_callSi (W.runV (As := As) (rest := rest) S hM cw ⟨sh_bln rfl sh_blr, va_recv hK hP hc he, fun U hU hW => ⟨⟨rfl, by rw [hU]; exact hP.sub isC hC, va_K.moved hW.alike hK⟩, va_Nw.warmM hW hnw⟩⟩ rfl hn hsz hst (lv_room hW) hdg hf) (fun z hz => ?_)
  subst hz
  exact kk
/-- a private static of the nest's host -/
theorem sh_cSNi {r : Int32} {host : String} (S : CallFix p m c cc nL s args Ts own) (hM : Met l y wy rm (sh_Pr D tys wc As) (vp_Si (fun z => z = r)) 0 0 (fun _ => False)) (cw : va_CN R s args own index y host bytes maxL ret wy rm 0 0 n ∧ (Cond.static y).before args s = true ∧ True) (hP : va_P D vwCl ws H) (hK : va_K D vwCl tys s) (isC : List Nat) (hC : isC.filterMap (fun i => ws[i]?) = wc)
    (hn : As.length = n) (hsz : ls.size = nL) (hst : st0 = As.reverse ++ rest) (hW : (rest.map fun v => v.category).sum ≤ 8) (hdg : decode cc pc = .ok (.invokestatic index, 3)) (hf : cells ≤ R.cells ∧ slots ≤ R.slots)
    (kk : W p l e R s m args below meth c H locs cells slots Q (F0 m (pc + 3) ls (.int r :: rest))) : W p l e R s m args below meth c H locs cells slots Q (F0 m pc ls st0) := by
  refine vp_callSi (va_Run.run (va_runSN (As := As) (rest := rest) S hM cw ⟨sh_blr, fun U hU hW => ⟨rfl, by rw [hU]; exact hP.sub isC hC, va_K.moved hW.alike hK⟩⟩ rfl hn hsz hst (lv_room hW) hdg hf)) (fun z hz => ?_)
  subst hz
  exact kk
end SH
