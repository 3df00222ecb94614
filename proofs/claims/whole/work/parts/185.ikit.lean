/-! helper rows for constructors: arrays of known classes, calls that make cells -/
section SHI
variable {p : Program} {l : Launch} {e : Env} {R : Room} {s : State} {m : MethodId} {args : Array Value} {below : List Frame} {meth : Method} {c : Code} {H : Heap} {locs : List Loc} {cells slots : Nat} {Q : State → Prop}
variable {cc bytes : ByteArray} {pc : Nat} {ls : Array Slot} {rest st0 : List Value} {D : va_G} {cl : List vw_C} {Az : Nat → Prop} {a b : Nat} {tys : List (ClassId × FieldType)} {ws wc wn : va_W} {H0 : Heap}
variable {nL maxL n index mc ms : Nat} {Ts wy : List Cond} {own : String} {y : MethodName} {rm : Room} {As : List Value}
/-- no reference type: its array class is found by its name -/
def sh_pr (ty : FieldType) : Bool := match ty with
  | .object _ => false
  | _ => true
theorem sh_ra {U : State} {c1 c2 : ClassId} {ty : FieldType} (hp : sh_pr ty = true) (h1 : va_RA U c1 ty) (h2 : va_RA U c2 ty) : c1 = c2 := by
  cases ty with
  | object C => exact nomatch hp
  | _ => exact Option.some.inj (Eq.trans (Eq.symm h1) h2)
theorem sh_newa (hexec : p.tables.exec = Jvm.exec) (hb : c.code = cc) {atype : ArrayType} (harr : (Cond.arrayClass (newarray.typeOf atype)).before args s = true) {ty : FieldType} (hty : newarray.typeOf atype = ty) (hpr : sh_pr ty = true) (hK : va_K D cl tys s) (t0 : Nat) {cA : ClassId} (ht : tys[t0]? = some (cA, ty)) (hP : va_P D cl ws H) (hD : va_D Az ws) (hS : va_S Az H0 H locs) (hA : ∀ q, H0.size ≤ q → Az q)
    {n : Int32} {N' : Nat} {a0 : vp_A} (ha : ∀ cA : ClassId, vp_cell cA a0 = arrV cA N' (fun _ => defaultValue ty)) (hn : ¬ n < 0) (hN : n.toNatClampNeg = N') (hbytes : N' * componentBytes ty ≤ 536870912) (hcells : cells + 1 ≤ R.cells) (hslots : slots + N' ≤ R.slots) (hdg : decode cc pc = .ok (.newarray atype, 2))
    (kk : ∀ (q : Nat) (H1 : Heap), va_P D cl (ws ++ [(q, .inl (cA, a0))]) H1 → va_D Az (ws ++ [(q, .inl (cA, a0))]) → va_S Az H0 H1 locs →
      W p l e R s m args below meth c H1 locs (cells + 1) (slots + N') Q (F0 m (pc + 2) ls (.ref q :: rest))) : W p l e R s m args below meth c H locs cells slots Q (F0 m pc ls (.int n :: rest)) := by
  refine va_newa hexec hb harr hty hK hP hD hS hA ha hn hN hbytes hcells hslots hdg (fun q cB H1 hK1 hP1 hD1 hS1 => ?_)
  have h1 := (hK.2 t0 _ ht).2
  have h2 := (hK1.2 tys.length (cB, ty) (by simp)).2
  have h3 : cB = cA := sh_ra hpr h2 h1
  subst h3
  exact kk q H1 hP1 hD1 hS1
theorem sh_putF (hexec : p.tables.exec = Jvm.exec) (hb : c.code = cc) {own ref C : String} {T : u_T} {N ci index : Nat} {Ts : List Cond} (hts : ∀ w ∈ Ts, w.before args s = true) (hin : ∀ w ∈ u_ws C T N, w ∈ Ts) (ty0 : Nat → FieldType) (hty : ∀ k, k < N → parseFieldDescriptor (T k).2.2.1 = some (ty0 k)) (hnm : ∀ a, a < N → ∀ b, b < N → a ≠ b → (T a).2.1 ≠ (T b).2.1) (hown : s.vm.findClass own = some m.cls) (hK : va_K D cl tys s) (hP : va_P D cl ws H) (hD : va_D Az ws) (hS0 : va_S Az H0 H locs) (q0 : Nat) {fs : List Value} (he : ws[q0]? = some (a, .inr (ci, fs))) (hc : cl[ci]? = some (C, T, N)) (k : Nat) (hk : k < N) (hlink : (Cond.fieldLink own index ref (T k).2.1 (T k).2.2.1).before args s = true) (hsame : ∀ x, s.fieldFound? (T k).1 (T k).2.1 (T k).2.2.1 = some x → s.fieldFound? ref (T k).2.1 (T k).2.2.1 = some x) (hfin : (T k).2.2.2 = true) (hin2 : meth.name = "<init>") (hdecl : (T k).1 = own) {ty : FieldType} {v : Value} (hd : parseFieldDescriptor (T k).2.2.1 = some ty) (hn : narrow ty v = v) (hfit : fits ty v = true) (hl : k < fs.length) (hw : ws.set q0 (a, .inr (ci, fs.set k v)) = wn)
    (hdg : decode cc pc = .ok (.putfield index, 3)) (kk : ∀ (H1 : Heap) (locs1 : List Loc), va_P D cl wn H1 → va_D Az wn → va_S Az H0 H1 locs1 → W p l e R s m args below meth c H1 locs1 cells slots Q (F0 m (pc + 3) ls rest)) : W p l e R s m args below meth c H locs cells slots Q (F0 m pc ls (v :: .ref a :: rest)) := by
  subst hw
  exact va_putF hexec hb hts hin ty0 hty hnm hown hK hP hD hS0 q0 he hc k hk hlink hsame hfin hin2 hdecl hd hn hfit hl hdg kk
/-- a constructor's end: cells at new places u -/
abbrev sh_Qn (D : va_G) (tys : List (ClassId × FieldType)) (A : Nat → Prop) (w1 : (Nat → Nat) → va_W) := va_Qv (fun (_ : Nat → Nat) => True) (fun (u : Nat → Nat) (t : State) => va_P D vwCl (w1 u) t.heap ∧ va_K D vwCl tys t ∧ va_D A (w1 u)) A
theorem sh_wI {w1 wu : (Nat → Nat) → va_W} (S : CallFix p m c cc nL s args Ts own) (hM : Met l y wy rm (sh_Pw D tys H.size wc (.ref b :: As)) (sh_Qn D tys (va_A wc H.size) w1) mc ms (va_A wc H.size)) (cw : CallB R s args own index y bytes maxL none wy rm mc ms n ∧ y.name = "<init>" ∧ (Cond.instanceMethod y).before args s = true) (hP : va_P D vwCl ws H) (hK : va_K D vwCl tys s) (hD : va_D Az ws) (hS : va_S Az H0 H locs) (hA : ∀ q, H0.size ≤ q → Az q)
    (isC isR isN : List Nat) (hC : isC.map (fun i => ws[i]?) = wc.map some) (hC2 : isC.filterMap (fun i => ws[i]?) = wc) (hndC : va_nd isC = true) (hR : isR.map (fun i => ws[i]?) = (isR.filterMap (fun i => ws[i]?)).map some) (hnd : (va_nd isR && va_nd isN && isR.all (fun i => !isC.contains i)) = true) (hN : ∀ u, isN.map (fun i => (isR.filterMap (fun i => ws[i]?) ++ w1 u)[i]?) = (wu u).map some) (hN2 : ∀ u, isN.filterMap (fun i => (isR.filterMap (fun i => ws[i]?) ++ w1 u)[i]?) = wu u)
    (hn : As.length = n) (hsz : ls.size = nL) (hst : st0 = As.reverse ++ .ref b :: rest) (hW : (rest.map fun v => v.category).sum ≤ 8) (hdg : decode cc pc = .ok (.invokespecial index, 3)) (hf : cells + mc ≤ R.cells ∧ slots + ms ≤ R.slots)
    (kk : ∀ (u : Nat → Nat) (H1 : Heap) (locs1 : List Loc), va_P D vwCl (wu u) H1 → va_D Az (wu u) → va_S Az H0 H1 locs1 → W p l e R s m args below meth c H1 locs1 (cells + mc) (slots + ms) Q (F0 m (pc + 3) ls rest)) : W p l e R s m args below meth c H locs cells slots Q (F0 m pc ls st0) := by
  have hFc := va_free (wc := wc) hD hS hA isC hC
  have hDc := (hD.sub isC hndC hC).weaken (B := fun _ => True) (fun _ _ _ _ => trivial)
  refine va_callv (va_runI (As := As) (rest := rest) S hM cw ⟨sh_blw, fun U hU hW => ⟨rfl, by rw [hU], by rw [hU]; exact hP.sub isC hC2, va_K.moved hW.alike hK, hDc⟩⟩ rfl hn hsz hst (lv_room hW) hdg hf) hS (fun q _ h => hFc q h) hFc (fun u t H1 locs1 ht hvm hw hB hz1 hk1 hS1 => ?_)
  obtain ⟨hP1, hK1, hD1⟩ := hB
  rw [ht] at hP1
  obtain ⟨hP2, hD2⟩ := sh_after hP hD isC isR isN hC hR hnd (hN u) (hN2 u) hk1 hFc hP1 hD1
  exact kk u H1 locs1 hP2 hD2 hS1
/-- .. of a nest mate -/
theorem sh_wIN {host : String} {w1 wu : (Nat → Nat) → va_W} (S : CallFix p m c cc nL s args Ts own) (hM : Met l y wy rm (sh_Pw D tys H.size wc (.ref b :: As)) (sh_Qn D tys (va_A wc H.size) w1) mc ms (va_A wc H.size)) (cw : va_CN R s args own index y host bytes maxL none wy rm mc ms n ∧ y.name = "<init>" ∧ (Cond.instanceMethod y).before args s = true) (hP : va_P D vwCl ws H) (hK : va_K D vwCl tys s) (hD : va_D Az ws) (hS : va_S Az H0 H locs) (hA : ∀ q, H0.size ≤ q → Az q)
    (isC isR isN : List Nat) (hC : isC.map (fun i => ws[i]?) = wc.map some) (hC2 : isC.filterMap (fun i => ws[i]?) = wc) (hndC : va_nd isC = true) (hR : isR.map (fun i => ws[i]?) = (isR.filterMap (fun i => ws[i]?)).map some) (hnd : (va_nd isR && va_nd isN && isR.all (fun i => !isC.contains i)) = true) (hN : ∀ u, isN.map (fun i => (isR.filterMap (fun i => ws[i]?) ++ w1 u)[i]?) = (wu u).map some) (hN2 : ∀ u, isN.filterMap (fun i => (isR.filterMap (fun i => ws[i]?) ++ w1 u)[i]?) = wu u)
    (hn : As.length = n) (hsz : ls.size = nL) (hst : st0 = As.reverse ++ .ref b :: rest) (hW : (rest.map fun v => v.category).sum ≤ 8) (hdg : decode cc pc = .ok (.invokespecial index, 3)) (hf : cells + mc ≤ R.cells ∧ slots + ms ≤ R.slots)
    (kk : ∀ (u : Nat → Nat) (H1 : Heap) (locs1 : List Loc), va_P D vwCl (wu u) H1 → va_D Az (wu u) → va_S Az H0 H1 locs1 → W p l e R s m args below meth c H1 locs1 (cells + mc) (slots + ms) Q (F0 m (pc + 3) ls rest)) : W p l e R s m args below meth c H locs cells slots Q (F0 m pc ls st0) := by
  have hFc := va_free (wc := wc) hD hS hA isC hC
  have hDc := (hD.sub isC hndC hC).weaken (B := fun _ => True) (fun _ _ _ _ => trivial)
  refine va_callv (va_runIN (As := As) (rest := rest) S hM cw ⟨sh_blw, fun U hU hW => ⟨rfl, by rw [hU], by rw [hU]; exact hP.sub isC hC2, va_K.moved hW.alike hK, hDc⟩⟩ rfl hn hsz hst (lv_room hW) hdg hf) hS (fun q _ h => hFc q h) hFc (fun u t H1 locs1 ht hvm hw hB hz1 hk1 hS1 => ?_)
  obtain ⟨hP1, hK1, hD1⟩ := hB
  rw [ht] at hP1
  obtain ⟨hP2, hD2⟩ := sh_after hP hD isC isR isN hC hR hnd (hN u) (hN2 u) hk1 hFc hP1 hD1
  exact kk u H1 locs1 hP2 hD2 hS1
end SHI
