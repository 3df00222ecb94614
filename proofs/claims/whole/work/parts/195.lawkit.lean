/-! THE CLAIM OUT OF ONE WALK OF THE LAW'S BODY. Your part is whole_start (and what it stands on); all else here is the same for every law, but numbers. -/
def R_law : String := "ShadeTreeLaw"
def lw_P (b : Addr) (xs : List Int32) (args : Array Value) (s : State) : Prop := args = #[.ref b] ∧ s.IntsAt b xs ∧ xs.length ≤ 3072 ∧ (Jvm.Cond.and given_1 narrow_1).before args s = true
def lw_Q (_ : Array Value) (s : State) (o : Outcome) (t : State) : Prop := o = .returned (some (.int 1)) ∧ Framed s o t [] 36 1349
def lw_Z (below : List Frame) (a : Array Value) (s : State) : State → Prop := fun t => ∃ o, t.status = .running ∧ Ended t below o ∧ lw_Q a s o t
/-- the law's own end, with 1 on the stack, nothing written that was there before, its room as the claim has it -/
theorem lw_ret {p : Program} {l : Launch} {e : Env} {s : State} {m : MethodId} {below : List Frame} {meth : Method} {c : Code} {b : Nat} (hx : p.tables.exec = Jvm.exec) (hb : c.code = code) (hr : meth.sig.returnType = ret) (hlocks : meth.locks = false) {pc : Nat} {H : Heap} {ls : Array Slot} (hdg : decode code pc = .ok (.ireturn, 1)) : W p l e room_1 s m #[Value.ref b] below meth c H [] 36 1349 (lw_Z below #[Value.ref b] s) (F0 m pc ls [.int 1]) := by
  intro T hT X
  obtain ⟨fs, hret, hrun, hended, hW, hframe⟩ := X.leave (v := some (.int 1)) (hlocks := hlocks) (fun h => by rw [hr] at h; cases h)
  have hmeth' : T.vm.method? m = some meth := X.method'
  refine ⟨T.setFrames fs, ?_, .returned (some (.int 1)), hrun, hended, rfl, ⟨_, rfl⟩, hW, hframe⟩
  jvm_step X.here [X.here.top, hx, hb, hdg, hmeth', hr, ret, narrow_b1]
  (try refine ⟨rfl, ?_⟩); (try refine ⟨rfl, ?_⟩)
  first | (intro acts; rw [hret _ acts rfl rfl rfl]) | rw [hret _ _ rfl rfl rfl]
  exact Steps.refl _
/-- what holds at the law's entry: the machine, the code, the tables' words (any of lw_tbl by 'hts w (by decide +kernel)'), the script of L ints xs at the cell b, what the Statement gives of the start (any of its parts by flat_of_before) -/
def lw_At (p : Program) (s : State) (m : MethodId) (meth : Method) (c : Code) (b L : Nat) (xs : Nat → Int32) : Prop :=
  p.tables.exec = Jvm.exec ∧ c.code = code ∧ meth.sig.returnType = ret ∧ c.maxLocals = 4 ∧ s.vm.findClass R_law = some m.cls ∧ (∀ w ∈ lw_tbl, w.before #[Value.ref b] s = true) ∧ va_X b L xs s s.heap ∧ b < s.heap.size ∧ meth.locks = false ∧ (Jvm.Cond.and given_1 narrow_1).before #[Value.ref b] s = true
/-- at a place of the law, with nothing on the stack: whatever the two systems are, so long as they hold together -/
def lw_J (p : Program) (l : Launch) (e : Env) (s : State) (m : MethodId) (below : List Frame) (meth : Method) (c : Code) (b : Nat) (D : va_G) (cI cJ cZ : ClassId) (q q2 : Nat → Nat) (x3 : Int32) (pc : Nat) : Prop :=
  ∀ (I : Nat → Int32) (J : Nat → Int64) (A : Nat → Nat → Int32) (B : Nat → Nat → Int64) (I2 : Nat → Int32) (S : Int64) (A2 : Nat → Nat → Int32) (H : Heap) (locs : List Loc) (ls : Array Slot), Sim I J A B I2 S A2 → va_P D vwCl (sh_w7 q cI cJ cZ I J A B ++ sh_w8 q2 cI cJ cZ I2 S A2) H → va_D (fun a : Nat => s.heap.size ≤ a) (sh_w7 q cI cJ cZ I J A B ++ sh_w8 q2 cI cJ cZ I2 S A2) → va_S (fun a : Nat => s.heap.size ≤ a) s.heap H locs → lv_has ls 4 [(0, .ref b), (1, .ref (q 0)), (2, .ref (q2 0)), (3, .int x3)] → W p l e room_1 s m #[Value.ref b] below meth c H locs 36 1349 (lw_Z below #[Value.ref b] s) (F0 m pc ls [])
theorem lc_self (x : Int64) : lg_cmp x x = 0 := by
  unfold lg_cmp
  rw [if_neg (Int64.lt_irrefl (a := x)), if_pos rfl]
section LWK
variable {p : Program} {l : Launch} {e : Env} {R : Room} {s : State} {m : MethodId} {args : Array Value} {below : List Frame} {meth : Method} {c : Code} {H : Heap} {locs : List Loc} {cells slots : Nat} {Q : State → Prop}
variable {cc bytes : ByteArray} {pc : Nat} {ls : Array Slot} {rest st0 : List Value} {D : va_G} {cl : List vw_C} {Az : Nat → Prop} {a b : Nat} {tys : List (ClassId × FieldType)} {ws wc wn w1 : va_W} {H0 : Heap}
variable {nL maxL n index mc ms : Nat} {Ts wy : List Cond} {own C : String} {y : MethodName} {rm : Room} {As : List Value} {ret : Option FieldType}
/-- a writing method that asks for a word of the nest -/
theorem sh_wVin {r : Int32} {na : String} {ni : Nat} {nx : MethodName} {nh : String} (S : CallFix p m c cc nL s args Ts own) (hM : Met l y wy rm (sh_Pn (.methodLinkNest na ni nx nh) (sh_Pw D tys H.size wc (.ref b :: As))) (sh_Qi D tys (va_A wc H.size) w1 r) 0 0 (va_A wc H.size)) (cw : CallW R s args own C index y bytes maxL ret wy rm 0 0 n) (hnw : va_Nw (.methodLinkNest na ni nx nh) s) (hP : va_P D vwCl ws H) (hK : va_K D vwCl tys s) (hD : va_D Az ws) (hS : va_S Az H0 H locs) (hA : ∀ q, H0.size ≤ q → Az q)
    (isC isR isN : List Nat) (hC : isC.map (fun i => ws[i]?) = wc.map some) (hC2 : isC.filterMap (fun i => ws[i]?) = wc) (hndC : va_nd isC = true) (hR : isR.map (fun i => ws[i]?) = (isR.filterMap (fun i => ws[i]?)).map some) (hnd : (va_nd isR && va_nd isN && isR.all (fun i => !isC.contains i)) = true) (hN : isN.map (fun i => (isR.filterMap (fun i => ws[i]?) ++ w1)[i]?) = wn.map some) (hN2 : isN.filterMap (fun i => (isR.filterMap (fun i => ws[i]?) ++ w1)[i]?) = wn)
    (q0 : Nat) {ci : Nat} {fs : List Value} {T : u_T} {N : Nat} (he : ws[q0]? = some (b, .inr (ci, fs))) (hc : vwCl[ci]? = some (C, T, N))
    (hn : As.length = n) (hsz : ls.size = nL) (hst : st0 = As.reverse ++ .ref b :: rest) (hW : (rest.map fun v => v.category).sum ≤ 8) (hdg : decode cc pc = .ok (.invokevirtual index, 3)) (hf : cells ≤ R.cells ∧ slots ≤ R.slots)
    (kk : ∀ (H1 : Heap) (locs1 : List Loc), va_P D vwCl wn H1 → va_D Az wn → va_S Az H0 H1 locs1 → W p l e R s m args below meth c H1 locs1 cells slots Q (F0 m (pc + 3) ls (.int r :: rest))) : W p l e R s m args below meth c H locs cells slots Q (F0 m pc ls st0) := by
  have hFc := va_free (wc := wc) hD hS hA isC hC
  have hDc := (hD.sub isC hndC hC).weaken (B := fun _ => True) (fun _ _ _ _ => trivial)
  refine va_calli (va_runV (As := As) (rest := rest) S hM cw ⟨sh_bln rfl sh_blw, va_recv hK hP hc he, fun U hU hW => ⟨⟨rfl, by rw [hU], by rw [hU]; exact hP.sub isC hC2, va_K.moved hW.alike hK, hDc⟩, va_Nw.warmM hW hnw⟩⟩ rfl hn hsz hst (lv_room hW) hdg hf) hS (fun q _ h => hFc q h) hFc (fun z u t H1 locs1 ht hvm hw hB hz1 hk1 hS1 => ?_)
  subst hw
  obtain ⟨hP1, hK1, hD1⟩ := hB
  rw [ht] at hP1
  obtain ⟨hP2, hD2⟩ := sh_after hP hD isC isR isN hC hR hnd hN hN2 hk1 hFc hP1 hD1
  exact kk H1 locs1 hP2 hD2 hS1
/-- a constructor that asks for four words of the nest -/
theorem sh_wI4 {n1 n2 n3 n4 : String} {i1 i2 i3 i4 : Nat} {x1 x2 x3 x4 : MethodName} {h1 h2 h3 h4 : String} {v1 wu : (Nat → Nat) → va_W} (S : CallFix p m c cc nL s args Ts own) (hM : Met l y wy rm (sh_Pn (.methodLinkNest n1 i1 x1 h1) (sh_Pn (.methodLinkNest n2 i2 x2 h2) (sh_Pn (.methodLinkNest n3 i3 x3 h3) (sh_Pn (.methodLinkNest n4 i4 x4 h4) (sh_Pw D tys H.size wc (.ref b :: As)))))) (sh_Qn D tys (va_A wc H.size) v1) mc ms (va_A wc H.size)) (cw : CallB R s args own index y bytes maxL none wy rm mc ms n ∧ y.name = "<init>" ∧ (Cond.instanceMethod y).before args s = true)
    (hn1 : va_Nw (.methodLinkNest n1 i1 x1 h1) s) (hn2 : va_Nw (.methodLinkNest n2 i2 x2 h2) s) (hn3 : va_Nw (.methodLinkNest n3 i3 x3 h3) s) (hn4 : va_Nw (.methodLinkNest n4 i4 x4 h4) s) (hP : va_P D vwCl ws H) (hK : va_K D vwCl tys s) (hD : va_D Az ws) (hS : va_S Az H0 H locs) (hA : ∀ q, H0.size ≤ q → Az q)
    (isC isR isN : List Nat) (hC : isC.map (fun i => ws[i]?) = wc.map some) (hC2 : isC.filterMap (fun i => ws[i]?) = wc) (hndC : va_nd isC = true) (hR : isR.map (fun i => ws[i]?) = (isR.filterMap (fun i => ws[i]?)).map some) (hnd : (va_nd isR && va_nd isN && isR.all (fun i => !isC.contains i)) = true) (hN : ∀ u, isN.map (fun i => (isR.filterMap (fun i => ws[i]?) ++ v1 u)[i]?) = (wu u).map some) (hN2 : ∀ u, isN.filterMap (fun i => (isR.filterMap (fun i => ws[i]?) ++ v1 u)[i]?) = wu u)
    (hn : As.length = n) (hsz : ls.size = nL) (hst : st0 = As.reverse ++ .ref b :: rest) (hW : (rest.map fun v => v.category).sum ≤ 8) (hdg : decode cc pc = .ok (.invokespecial index, 3)) (hf : cells + mc ≤ R.cells ∧ slots + ms ≤ R.slots)
    (kk : ∀ (u : Nat → Nat) (H1 : Heap) (locs1 : List Loc), va_P D vwCl (wu u) H1 → va_D Az (wu u) → va_S Az H0 H1 locs1 → W p l e R s m args below meth c H1 locs1 (cells + mc) (slots + ms) Q (F0 m (pc + 3) ls rest)) : W p l e R s m args below meth c H locs cells slots Q (F0 m pc ls st0) := by
  have hFc := va_free (wc := wc) hD hS hA isC hC
  have hDc := (hD.sub isC hndC hC).weaken (B := fun _ => True) (fun _ _ _ _ => trivial)
  refine va_callv (va_runI (As := As) (rest := rest) S hM cw ⟨sh_bln rfl (sh_bln rfl (sh_bln rfl (sh_bln rfl sh_blw))), fun U hU hW => ⟨⟨⟨⟨⟨rfl, by rw [hU], by rw [hU]; exact hP.sub isC hC2, va_K.moved hW.alike hK, hDc⟩, va_Nw.warmM hW hn4⟩, va_Nw.warmM hW hn3⟩, va_Nw.warmM hW hn2⟩, va_Nw.warmM hW hn1⟩⟩ rfl hn hsz hst (lv_room hW) hdg hf) hS (fun q _ h => hFc q h) hFc (fun u t H1 locs1 ht hvm hw hB hz1 hk1 hS1 => ?_)
  obtain ⟨hP1, hK1, hD1⟩ := hB
  rw [ht] at hP1
  obtain ⟨hP2, hD2⟩ := sh_after hP hD isC isR isN hC hR hnd (hN u) (hN2 u) hk1 hFc hP1 hD1
  exact kk u H1 locs1 hP2 hD2 hS1
end LWK
