/-! the constructors -/
theorem hdI_X0_init : yX0_init.cls ≠ "java/lang/invoke/MethodHandle" ∧ yX0_init.cls ≠ "java/lang/invoke/VarHandle" ∧ (parseMethodDescriptor yX0_init.desc).map (fun d => d.parameters.length) = some 0 := by decide +kernel
abbrev rmX0_init : Room := { frames := 1, cells := 1, slots := 140, locals := 12 }
set_option maxHeartbeats 4000000 in
set_option maxRecDepth 100000 in
theorem k_X0_init (l : Launch) (D : va_G) (cI cJ cZ : ClassId) (sz : Nat) (a : Nat)   : Met l yX0_init wsX0_init rmX0_init (sh_Pw D (sh_ty cI cJ cZ) sz [(a, .inr (0, [.null, .int 0]))] [.ref a]) (sh_Qn D (sh_ty cI cJ cZ) (va_A [(a, .inr (0, [.null, .int 0]))] sz) (fun u => [(a, .inr (0, [.ref (u 0), .int 0])), ((u 0), .inl (cJ, 140, .inr (.inl (fun _ => 0))))])) 1 140 (va_A [(a, .inr (0, [.null, .int 0]))] sz) := by
  refine Met.ofW (cc := cX0_init) (maxL := 1) (ret := none) (by decide) rfl ?_
  intro p e s m args below meth c s₁ hB hml hv
  obtain ⟨hargs, hsz, hP, hK, hD0⟩ := hv
  have hx := hB.exec
  have hb := hB.bytes
  have hr := hB.returns
  have hts := atoms_spec (ws := wsX0_init) hB.pre
  have hown : s.vm.findClass RX0 = some m.cls := findClass_of_methodNamed hB.named
  have hlocks := hB.notSynchronized
  have hin : meth.name = "<init>" := (name_of_methodNamed hB.named hB.method).1
  have hfix : CallFix p m c cX0_init 1 s args wsX0_init RX0 := ⟨hx, hb, hml, hown, hts⟩
  have hinX0 : ∀ w ∈ wsX00, w ∈ wsX0_init := by decide +kernel
  have lk1 := hts (.methodLink RX0 3 objectInit) (by decide +kernel)
  have lk2 := hts (.instanceMethod objectInit) (by decide +kernel)
  have lk3 := hts (.arrayClass .long) (by decide +kernel)
  have lk4 := hts (.fieldLink RX0 11 "ShadeTree$Doings" "before" "[J") (by decide +kernel)
  have hcode0 := hts (.code objectInit ⟨#[0xb1]⟩ 1 none) (List.mem_of_getElem? (i := 3) rfl)
  rw [show entryFrame m args 1 = entryFrame m ([.ref a] : List Value).toArray 1 by rw [hargs], lg_entry_eq]
  have hl := lv_entry ([.ref a]) (n := 1) (Nat.le_of_ble_eq_true rfl)
  generalize (lg_sl ([.ref a]) ++ List.replicate (1 - (lg_sl ([.ref a])).length) Slot.unset).toArray = ls at hl ⊢
  have hl : lv_has ls 1 [(0, .ref a)] := hl
  subst hsz
  have hD := hD0.self (sz := s.heap.size)
  generalize hAe : va_A [(a, .inr (0, [.null, .int 0]))] s.heap.size = Az at hD ⊢
  have hA : ∀ q : Nat, s.heap.size ≤ q → Az q := fun q h => by rw [← hAe]; exact Or.inr h
  have hS : va_S Az s.heap s.heap [] := va_S.rf
  refine lv_aload_n hx hb dX0_init_0 rfl (lv_at hl 0 rfl) ?_
  refine W.objInit hx hb hown lk1 lk2 hcode0 rfl (by rw [hml]; exact hl.1) rfl dX0_init_1 (Nat.le_of_ble_eq_true rfl) (Nat.le_of_ble_eq_true rfl) ?_
  refine W.eq (g2 := F0 m 4 ls []) rfl ?_
  refine lv_aload_n hx hb dX0_init_4 rfl (lv_at hl 0 rfl) ?_
  refine lv_sipush (v := 140) hx hb dX0_init_5 (by decide) ?_
  refine sh_newa (atype := .long) (N' := 140) (a0 := (140, .inr (.inl (fun _ => 0)))) hx hb (lk3) rfl rfl hK 1 rfl hP hD hS hA (fun _ => rfl) (by decide) (by decide) (by decide) (Nat.le_of_ble_eq_true rfl) (Nat.le_of_ble_eq_true rfl) dX0_init_8 (fun q1 H hP hD hS => ?_)
  have hP : va_P D vwCl [(a, .inr (0, [.null, .int 0])), (q1, .inl (cJ, 140, .inr (.inl (fun _ => 0))))] H := hP
  have hD : va_D Az [(a, .inr (0, [.null, .int 0])), (q1, .inl (cJ, 140, .inr (.inl (fun _ => 0))))] := hD
  refine W.widen (k := 1) (n := 140) (Nat.le_of_ble_eq_true rfl) (Nat.le_of_ble_eq_true rfl) ?_
  refine sh_putF (wn := [(a, .inr (0, [.ref q1, .int 0])), (q1, .inl (cJ, 140, .inr (.inl (fun _ => 0))))]) (ci := 0) (v := .ref q1) (ty := .array .long) (C := RX0) (T := TX0) (N := 2) hx hb hts hinX0 tyX0 tyX0_ok nmX0 hown hK hP hD hS 0 rfl rfl 0 (by decide) lk4 (fun _ h9 => h9) rfl hin rfl (by decide +kernel) rfl rfl (Nat.le_of_ble_eq_true rfl) rfl dX0_init_10 (fun H locs hP hD hS => ?_)
  have hP9 := hP.sub (ws' := [(a, .inr (0, [.ref q1, .int 0])), (q1, .inl (cJ, 140, .inr (.inl (fun _ => 0))))]) [0, 1] rfl
  have hD9 := hD.sub (ws' := [(a, .inr (0, [.ref q1, .int 0])), (q1, .inl (cJ, 140, .inr (.inl (fun _ => 0))))]) [0, 1] (by decide) rfl
  exact W.vret hx hb hr (fun t ht hW => ⟨⟨(fun _ => q1), rfl, trivial, by rw [ht]; exact hP9, va_K.moved hW.alike hK, hD9⟩, hS.F ht⟩) hS.2.2 dX0_init_13
theorem hdI_X1_init : yX1_init.cls ≠ "java/lang/invoke/MethodHandle" ∧ yX1_init.cls ≠ "java/lang/invoke/VarHandle" ∧ (parseMethodDescriptor yX1_init.desc).map (fun d => d.parameters.length) = some 0 := by decide +kernel
abbrev rmX1_init : Room := { frames := 1, cells := 0, slots := 0, locals := 24 }
set_option maxHeartbeats 4000000 in
set_option maxRecDepth 100000 in
theorem k_X1_init (l : Launch) (D : va_G) (cI cJ cZ : ClassId) (sz : Nat) (a : Nat) (ga gl gr : Int64) (hlay : fX1_lay 4 1 1 = some (4, 1, 1, ga, gl, gr)) : Met l yX1_init wsX1_init rmX1_init (sh_Pw D (sh_ty cI cJ cZ) sz [(a, .inr (1, [.int 0, .int 0, .int 0, .long 0, .long 0, .long 0]))] [.ref a]) (sh_Qn D (sh_ty cI cJ cZ) (va_A [(a, .inr (1, [.int 0, .int 0, .int 0, .long 0, .long 0, .long 0]))] sz) (fun u => [(a, .inr (1, [.int 4, .int 1, .int 1, .long ga, .long gl, .long gr]))])) 0 0 (va_A [(a, .inr (1, [.int 0, .int 0, .int 0, .long 0, .long 0, .long 0]))] sz) := by
  refine Met.ofW (cc := cX1_init) (maxL := 1) (ret := none) (by decide) rfl ?_
  intro p e s m args below meth c s₁ hB hml hv
  obtain ⟨hargs, hsz, hP, hK, hD0⟩ := hv
  have hx := hB.exec
  have hb := hB.bytes
  have hr := hB.returns
  have hts := atoms_spec (ws := wsX1_init) hB.pre
  have hown : s.vm.findClass RX1 = some m.cls := findClass_of_methodNamed hB.named
  have hlocks := hB.notSynchronized
  have hin : meth.name = "<init>" := (name_of_methodNamed hB.named hB.method).1
  have hfix : CallFix p m c cX1_init 1 s args wsX1_init RX1 := ⟨hx, hb, hml, hown, hts⟩
  have hinX1 : ∀ w ∈ wsX10, w ∈ wsX1_init := by decide +kernel
  have lk1 := hts (.methodLink RX1 3 objectInit) (by decide +kernel)
  have lk2 := hts (.instanceMethod objectInit) (by decide +kernel)
  have hcode0 := hts (.code objectInit ⟨#[0xb1]⟩ 1 none) (List.mem_of_getElem? (i := 3) rfl)
  rw [show entryFrame m args 1 = entryFrame m ([.ref a] : List Value).toArray 1 by rw [hargs], lg_entry_eq]
  have hl := lv_entry ([.ref a]) (n := 1) (Nat.le_of_ble_eq_true rfl)
  generalize (lg_sl ([.ref a]) ++ List.replicate (1 - (lg_sl ([.ref a])).length) Slot.unset).toArray = ls at hl ⊢
  have hl : lv_has ls 1 [(0, .ref a)] := hl
  subst hsz
  have hD := hD0.self (sz := s.heap.size)
  generalize hAe : va_A [(a, .inr (1, [.int 0, .int 0, .int 0, .long 0, .long 0, .long 0]))] s.heap.size = Az at hD ⊢
  have hA : ∀ q : Nat, s.heap.size ≤ q → Az q := fun q h => by rw [← hAe]; exact Or.inr h
  have hS : va_S Az s.heap s.heap [] := va_S.rf
  refine lv_aload_n hx hb dX1_init_0 rfl (lv_at hl 0 rfl) ?_
  refine W.objInit hx hb hown lk1 lk2 hcode0 rfl (by rw [hml]; exact hl.1) rfl dX1_init_1 (Nat.le_of_ble_eq_true rfl) (Nat.le_of_ble_eq_true rfl) ?_
  refine W.eq (g2 := F0 m 4 ls []) rfl ?_
  refine lv_aload_n hx hb dX1_init_4 rfl (lv_at hl 0 rfl) ?_
  refine lv_iconst (v := 4) hx hb dX1_init_5 (by decide) ?_
  refine lv_iconst (v := 1) hx hb dX1_init_6 (by decide) ?_
  refine lv_iconst (v := 1) hx hb dX1_init_7 (by decide) ?_
  refine sh_wVv (wn := [(a, .inr (1, [.int 4, .int 1, .int 1, .long ga, .long gl, .long gr]))]) (As := [.int 4, .int 1, .int 1]) (rest := []) hfix (k_X1_lay l D cI cJ cZ _ a 0 0 0 0 0 0 4 1 1 4 1 1 ga gl gr hlay) (cwV 3 hts gX1_init_X1_lay rfl rfl rfl hdV_X1_lay ⟨Nat.le_of_ble_eq_true rfl, Nat.le_of_ble_eq_true rfl⟩) hP hK hD hS hA [0] [] [0] rfl rfl rfl rfl rfl rfl rfl 0 rfl rfl rfl hl.1 rfl (Nat.le_of_ble_eq_true rfl) dX1_init_8 ⟨Nat.le_of_ble_eq_true rfl, Nat.le_of_ble_eq_true rfl⟩ (fun H locs hP hD hS => ?_)
  have hP9 := hP.sub (ws' := [(a, .inr (1, [.int 4, .int 1, .int 1, .long ga, .long gl, .long gr]))]) [0] rfl
  have hD9 := hD.sub (ws' := [(a, .inr (1, [.int 4, .int 1, .int 1, .long ga, .long gl, .long gr]))]) [0] (by decide) rfl
  exact W.vret hx hb hr (fun t ht hW => ⟨⟨(fun _ => 0), rfl, trivial, by rw [ht]; exact hP9, va_K.moved hW.alike hK, hD9⟩, hS.F ht⟩) hS.2.2 dX1_init_11
theorem hdI_X2_init : yX2_init.cls ≠ "java/lang/invoke/MethodHandle" ∧ yX2_init.cls ≠ "java/lang/invoke/VarHandle" ∧ (parseMethodDescriptor yX2_init.desc).map (fun d => d.parameters.length) = some 1 := by decide +kernel
abbrev rmX2_init : Room := { frames := 2, cells := 1, slots := 10, locals := 41 }
set_option maxHeartbeats 4000000 in
set_option maxRecDepth 100000 in
theorem k_X2_init (l : Launch) (D : va_G) (cI cJ cZ : ClassId) (sz : Nat) (a : Nat) (aG : Nat) (ga gl gr : Int64) (d0 : Nat → Int64) (hdark : fX2_darken ga (fun _ => 0) = some d0) : Met l yX2_init wsX2_init rmX2_init (sh_Pw D (sh_ty cI cJ cZ) sz [(a, .inr (2, [.null, .null])), (aG, .inr (1, [.int 4, .int 1, .int 1, .long ga, .long gl, .long gr]))] [.ref a, .ref aG]) (sh_Qn D (sh_ty cI cJ cZ) (va_A [(a, .inr (2, [.null, .null])), (aG, .inr (1, [.int 4, .int 1, .int 1, .long ga, .long gl, .long gr]))] sz) (fun u => [(a, .inr (2, [.ref aG, .ref (u 0)])), (aG, .inr (1, [.int 4, .int 1, .int 1, .long ga, .long gl, .long gr])), ((u 0), .inl (cJ, 10, .inr (.inl d0)))])) 1 10 (va_A [(a, .inr (2, [.null, .null])), (aG, .inr (1, [.int 4, .int 1, .int 1, .long ga, .long gl, .long gr]))] sz) := by
  refine Met.ofW (cc := cX2_init) (maxL := 2) (ret := none) (by decide) rfl ?_
  intro p e s m args below meth c s₁ hB hml hv
  obtain ⟨hargs, hsz, hP, hK, hD0⟩ := hv
  have hx := hB.exec
  have hb := hB.bytes
  have hr := hB.returns
  have hts := atoms_spec (ws := wsX2_init) hB.pre
  have hown : s.vm.findClass RX2 = some m.cls := findClass_of_methodNamed hB.named
  have hlocks := hB.notSynchronized
  have hin : meth.name = "<init>" := (name_of_methodNamed hB.named hB.method).1
  have hfix : CallFix p m c cX2_init 2 s args wsX2_init RX2 := ⟨hx, hb, hml, hown, hts⟩
  have hinX2 : ∀ w ∈ wsX20, w ∈ wsX2_init := by decide +kernel
  have lk1 := hts (.methodLink RX2 3 objectInit) (by decide +kernel)
  have lk2 := hts (.instanceMethod objectInit) (by decide +kernel)
  have lk3 := hts (.arrayClass .long) (by decide +kernel)
  have lk4 := hts (.fieldLink RX2 9 "ShadeTree$Shades" "layers" "[J") (by decide +kernel)
  have lk5 := hts (.fieldLink RX2 15 "ShadeTree$Shades" "grid" "LShadeTree$Grid;") (by decide +kernel)
  have hcode0 := hts (.code objectInit ⟨#[0xb1]⟩ 1 none) (List.mem_of_getElem? (i := 3) rfl)
  rw [show entryFrame m args 2 = entryFrame m ([.ref a, .ref aG] : List Value).toArray 2 by rw [hargs], lg_entry_eq]
  have hl := lv_entry ([.ref a, .ref aG]) (n := 2) (Nat.le_of_ble_eq_true rfl)
  generalize (lg_sl ([.ref a, .ref aG]) ++ List.replicate (2 - (lg_sl ([.ref a, .ref aG])).length) Slot.unset).toArray = ls at hl ⊢
  have hl : lv_has ls 2 [(0, .ref a), (1, .ref aG)] := hl
  subst hsz
  have hD := hD0.self (sz := s.heap.size)
  generalize hAe : va_A [(a, .inr (2, [.null, .null])), (aG, .inr (1, [.int 4, .int 1, .int 1, .long ga, .long gl, .long gr]))] s.heap.size = Az at hD ⊢
  have hA : ∀ q : Nat, s.heap.size ≤ q → Az q := fun q h => by rw [← hAe]; exact Or.inr h
  have hS : va_S Az s.heap s.heap [] := va_S.rf
  refine lv_aload_n hx hb dX2_init_0 rfl (lv_at hl 0 rfl) ?_
  refine W.objInit hx hb hown lk1 lk2 hcode0 rfl (by rw [hml]; exact hl.1) rfl dX2_init_1 (Nat.le_of_ble_eq_true rfl) (Nat.le_of_ble_eq_true rfl) ?_
  refine W.eq (g2 := F0 m 4 ls []) rfl ?_
  refine lv_aload_n hx hb dX2_init_4 rfl (lv_at hl 0 rfl) ?_
  refine lv_bipush (v := 10) hx hb dX2_init_5 (by decide) ?_
  refine sh_newa (atype := .long) (N' := 10) (a0 := (10, .inr (.inl (fun _ => 0)))) hx hb (lk3) rfl rfl hK 1 rfl hP hD hS hA (fun _ => rfl) (by decide) (by decide) (by decide) (Nat.le_of_ble_eq_true rfl) (Nat.le_of_ble_eq_true rfl) dX2_init_7 (fun q1 H hP hD hS => ?_)
  have hP : va_P D vwCl [(a, .inr (2, [.null, .null])), (aG, .inr (1, [.int 4, .int 1, .int 1, .long ga, .long gl, .long gr])), (q1, .inl (cJ, 10, .inr (.inl (fun _ => 0))))] H := hP
  have hD : va_D Az [(a, .inr (2, [.null, .null])), (aG, .inr (1, [.int 4, .int 1, .int 1, .long ga, .long gl, .long gr])), (q1, .inl (cJ, 10, .inr (.inl (fun _ => 0))))] := hD
  refine W.widen (k := 1) (n := 10) (Nat.le_of_ble_eq_true rfl) (Nat.le_of_ble_eq_true rfl) ?_
  refine sh_putF (wn := [(a, .inr (2, [.null, .ref q1])), (aG, .inr (1, [.int 4, .int 1, .int 1, .long ga, .long gl, .long gr])), (q1, .inl (cJ, 10, .inr (.inl (fun _ => 0))))]) (ci := 2) (v := .ref q1) (ty := .array .long) (C := RX2) (T := TX2) (N := 2) hx hb hts hinX2 tyX2 tyX2_ok nmX2 hown hK hP hD hS 0 rfl rfl 1 (by decide) lk4 (fun _ h9 => h9) rfl hin rfl (by decide +kernel) rfl rfl (Nat.le_of_ble_eq_true rfl) rfl dX2_init_9 (fun H locs hP hD hS => ?_)
  refine lv_aload_n hx hb dX2_init_12 rfl (lv_at hl 0 rfl) ?_
  refine lv_aload_n hx hb dX2_init_13 rfl (lv_at hl 1 rfl) ?_
  refine sh_putF (wn := [(a, .inr (2, [.ref aG, .ref q1])), (aG, .inr (1, [.int 4, .int 1, .int 1, .long ga, .long gl, .long gr])), (q1, .inl (cJ, 10, .inr (.inl (fun _ => 0))))]) (ci := 2) (v := .ref aG) (ty := .object "ShadeTree$Grid") (C := RX2) (T := TX2) (N := 2) hx hb hts hinX2 tyX2 tyX2_ok nmX2 hown hK hP hD hS 0 rfl rfl 0 (by decide) lk5 (fun _ h9 => h9) rfl hin rfl (by decide +kernel) rfl rfl (Nat.le_of_ble_eq_true rfl) rfl dX2_init_14 (fun H locs hP hD hS => ?_)
  refine lv_aload_n hx hb dX2_init_17 rfl (lv_at hl 0 rfl) ?_
  refine sh_wVv (wn := [(a, .inr (2, [.ref aG, .ref q1])), (aG, .inr (1, [.int 4, .int 1, .int 1, .long ga, .long gl, .long gr])), (q1, .inl (cJ, 10, .inr (.inl d0)))]) (As := []) (rest := []) hfix (k_X2_darken l D cI cJ cZ _ aG a q1 4 1 1 ga gl gr (fun _ => 0) d0 hdark) (cwV 0 hts gX2_init_X2_darken rfl rfl rfl hdV_X2_darken ⟨Nat.le_of_ble_eq_true rfl, Nat.le_of_ble_eq_true rfl⟩) hP hK hD hS hA [0, 2, 1] [] [0, 2, 1] rfl rfl rfl rfl rfl rfl rfl 0 rfl rfl rfl hl.1 rfl (Nat.le_of_ble_eq_true rfl) dX2_init_18 ⟨Nat.le_of_ble_eq_true rfl, Nat.le_of_ble_eq_true rfl⟩ (fun H locs hP hD hS => ?_)
  have hP9 := hP.sub (ws' := [(a, .inr (2, [.ref aG, .ref q1])), (aG, .inr (1, [.int 4, .int 1, .int 1, .long ga, .long gl, .long gr])), (q1, .inl (cJ, 10, .inr (.inl d0)))]) [0, 1, 2] rfl
  have hD9 := hD.sub (ws' := [(a, .inr (2, [.ref aG, .ref q1])), (aG, .inr (1, [.int 4, .int 1, .int 1, .long ga, .long gl, .long gr])), (q1, .inl (cJ, 10, .inr (.inl d0)))]) [0, 1, 2] (by decide) rfl
  exact W.vret hx hb hr (fun t ht hW => ⟨⟨(fun _ => q1), rfl, trivial, by rw [ht]; exact hP9, va_K.moved hW.alike hK, hD9⟩, hS.F ht⟩) hS.2.2 dX2_init_21
theorem hdI_X3_init : yX3_init.cls ≠ "java/lang/invoke/MethodHandle" ∧ yX3_init.cls ≠ "java/lang/invoke/VarHandle" ∧ (parseMethodDescriptor yX3_init.desc).map (fun d => d.parameters.length) = some 0 := by decide +kernel
abbrev rmX3_init : Room := { frames := 1, cells := 3, slots := 18, locals := 12 }
set_option maxHeartbeats 4000000 in
set_option maxRecDepth 100000 in
theorem k_X3_init (l : Launch) (D : va_G) (cI cJ cZ : ClassId) (sz : Nat) (a : Nat)   : Met l yX3_init wsX3_init rmX3_init (sh_Pw D (sh_ty cI cJ cZ) sz [(a, .inr (3, [.null, .null, .null, .int 0]))] [.ref a]) (sh_Qn D (sh_ty cI cJ cZ) (va_A [(a, .inr (3, [.null, .null, .null, .int 0]))] sz) (fun u => [(a, .inr (3, [.ref (u 0), .ref (u 1), .ref (u 2), .int 0])), ((u 0), .inl (cI, 6, .inl (fun _ => 0))), ((u 1), .inl (cI, 6, .inl (fun _ => 0))), ((u 2), .inl (cZ, 6, .inl (fun _ => 0)))])) 3 18 (va_A [(a, .inr (3, [.null, .null, .null, .int 0]))] sz) := by
  refine Met.ofW (cc := cX3_init) (maxL := 1) (ret := none) (by decide) rfl ?_
  intro p e s m args below meth c s₁ hB hml hv
  obtain ⟨hargs, hsz, hP, hK, hD0⟩ := hv
  have hx := hB.exec
  have hb := hB.bytes
  have hr := hB.returns
  have hts := atoms_spec (ws := wsX3_init) hB.pre
  have hown : s.vm.findClass RX3 = some m.cls := findClass_of_methodNamed hB.named
  have hlocks := hB.notSynchronized
  have hin : meth.name = "<init>" := (name_of_methodNamed hB.named hB.method).1
  have hfix : CallFix p m c cX3_init 1 s args wsX3_init RX3 := ⟨hx, hb, hml, hown, hts⟩
  have hinX3 : ∀ w ∈ wsX30, w ∈ wsX3_init := by decide +kernel
  have lk1 := hts (.methodLink RX3 1 objectInit) (by decide +kernel)
  have lk2 := hts (.instanceMethod objectInit) (by decide +kernel)
  have lk3 := hts (.arrayClass .int) (by decide +kernel)
  have lk4 := hts (.fieldLink RX3 9 "ShadeTree$Sights" "ones" "[I") (by decide +kernel)
  have lk5 := hts (.fieldLink RX3 13 "ShadeTree$Sights" "others" "[I") (by decide +kernel)
  have lk6 := hts (.arrayClass .boolean) (by decide +kernel)
  have lk7 := hts (.fieldLink RX3 16 "ShadeTree$Sights" "joined" "[Z") (by decide +kernel)
  have hcode0 := hts (.code objectInit ⟨#[0xb1]⟩ 1 none) (List.mem_of_getElem? (i := 3) rfl)
  rw [show entryFrame m args 1 = entryFrame m ([.ref a] : List Value).toArray 1 by rw [hargs], lg_entry_eq]
  have hl := lv_entry ([.ref a]) (n := 1) (Nat.le_of_ble_eq_true rfl)
  generalize (lg_sl ([.ref a]) ++ List.replicate (1 - (lg_sl ([.ref a])).length) Slot.unset).toArray = ls at hl ⊢
  have hl : lv_has ls 1 [(0, .ref a)] := hl
  subst hsz
  have hD := hD0.self (sz := s.heap.size)
  generalize hAe : va_A [(a, .inr (3, [.null, .null, .null, .int 0]))] s.heap.size = Az at hD ⊢
  have hA : ∀ q : Nat, s.heap.size ≤ q → Az q := fun q h => by rw [← hAe]; exact Or.inr h
  have hS : va_S Az s.heap s.heap [] := va_S.rf
  refine lv_aload_n hx hb dX3_init_0 rfl (lv_at hl 0 rfl) ?_
  refine W.objInit hx hb hown lk1 lk2 hcode0 rfl (by rw [hml]; exact hl.1) rfl dX3_init_1 (Nat.le_of_ble_eq_true rfl) (Nat.le_of_ble_eq_true rfl) ?_
  refine W.eq (g2 := F0 m 4 ls []) rfl ?_
  refine lv_aload_n hx hb dX3_init_4 rfl (lv_at hl 0 rfl) ?_
  refine lv_bipush (v := 6) hx hb dX3_init_5 (by decide) ?_
  refine sh_newa (atype := .int) (N' := 6) (a0 := (6, .inl (fun _ => 0))) hx hb (lk3) rfl rfl hK 0 rfl hP hD hS hA (fun _ => rfl) (by decide) (by decide) (by decide) (Nat.le_of_ble_eq_true rfl) (Nat.le_of_ble_eq_true rfl) dX3_init_7 (fun q1 H hP hD hS => ?_)
  have hP : va_P D vwCl [(a, .inr (3, [.null, .null, .null, .int 0])), (q1, .inl (cI, 6, .inl (fun _ => 0)))] H := hP
  have hD : va_D Az [(a, .inr (3, [.null, .null, .null, .int 0])), (q1, .inl (cI, 6, .inl (fun _ => 0)))] := hD
  refine W.widen (k := 1) (n := 6) (Nat.le_of_ble_eq_true rfl) (Nat.le_of_ble_eq_true rfl) ?_
  refine sh_putF (wn := [(a, .inr (3, [.ref q1, .null, .null, .int 0])), (q1, .inl (cI, 6, .inl (fun _ => 0)))]) (ci := 3) (v := .ref q1) (ty := .array .int) (C := RX3) (T := TX3) (N := 4) hx hb hts hinX3 tyX3 tyX3_ok nmX3 hown hK hP hD hS 0 rfl rfl 0 (by decide) lk4 (fun _ h9 => h9) rfl hin rfl (by decide +kernel) rfl rfl (Nat.le_of_ble_eq_true rfl) rfl dX3_init_9 (fun H locs hP hD hS => ?_)
  refine lv_aload_n hx hb dX3_init_12 rfl (lv_at hl 0 rfl) ?_
  refine lv_bipush (v := 6) hx hb dX3_init_13 (by decide) ?_
  refine sh_newa (atype := .int) (N' := 6) (a0 := (6, .inl (fun _ => 0))) hx hb (lk3) rfl rfl hK 0 rfl hP hD hS hA (fun _ => rfl) (by decide) (by decide) (by decide) (Nat.le_of_ble_eq_true rfl) (Nat.le_of_ble_eq_true rfl) dX3_init_15 (fun q2 H hP hD hS => ?_)
  have hP : va_P D vwCl [(a, .inr (3, [.ref q1, .null, .null, .int 0])), (q1, .inl (cI, 6, .inl (fun _ => 0))), (q2, .inl (cI, 6, .inl (fun _ => 0)))] H := hP
  have hD : va_D Az [(a, .inr (3, [.ref q1, .null, .null, .int 0])), (q1, .inl (cI, 6, .inl (fun _ => 0))), (q2, .inl (cI, 6, .inl (fun _ => 0)))] := hD
  refine W.widen (k := 2) (n := 12) (Nat.le_of_ble_eq_true rfl) (Nat.le_of_ble_eq_true rfl) ?_
  refine sh_putF (wn := [(a, .inr (3, [.ref q1, .ref q2, .null, .int 0])), (q1, .inl (cI, 6, .inl (fun _ => 0))), (q2, .inl (cI, 6, .inl (fun _ => 0)))]) (ci := 3) (v := .ref q2) (ty := .array .int) (C := RX3) (T := TX3) (N := 4) hx hb hts hinX3 tyX3 tyX3_ok nmX3 hown hK hP hD hS 0 rfl rfl 1 (by decide) lk5 (fun _ h9 => h9) rfl hin rfl (by decide +kernel) rfl rfl (Nat.le_of_ble_eq_true rfl) rfl dX3_init_17 (fun H locs hP hD hS => ?_)
  refine lv_aload_n hx hb dX3_init_20 rfl (lv_at hl 0 rfl) ?_
  refine lv_bipush (v := 6) hx hb dX3_init_21 (by decide) ?_
  refine sh_newa (atype := .boolean) (N' := 6) (a0 := (6, .inl (fun _ => 0))) hx hb (lk6) rfl rfl hK 2 rfl hP hD hS hA (fun _ => rfl) (by decide) (by decide) (by decide) (Nat.le_of_ble_eq_true rfl) (Nat.le_of_ble_eq_true rfl) dX3_init_23 (fun q3 H hP hD hS => ?_)
  have hP : va_P D vwCl [(a, .inr (3, [.ref q1, .ref q2, .null, .int 0])), (q1, .inl (cI, 6, .inl (fun _ => 0))), (q2, .inl (cI, 6, .inl (fun _ => 0))), (q3, .inl (cZ, 6, .inl (fun _ => 0)))] H := hP
  have hD : va_D Az [(a, .inr (3, [.ref q1, .ref q2, .null, .int 0])), (q1, .inl (cI, 6, .inl (fun _ => 0))), (q2, .inl (cI, 6, .inl (fun _ => 0))), (q3, .inl (cZ, 6, .inl (fun _ => 0)))] := hD
  refine W.widen (k := 3) (n := 18) (Nat.le_of_ble_eq_true rfl) (Nat.le_of_ble_eq_true rfl) ?_
  refine sh_putF (wn := [(a, .inr (3, [.ref q1, .ref q2, .ref q3, .int 0])), (q1, .inl (cI, 6, .inl (fun _ => 0))), (q2, .inl (cI, 6, .inl (fun _ => 0))), (q3, .inl (cZ, 6, .inl (fun _ => 0)))]) (ci := 3) (v := .ref q3) (ty := .array .boolean) (C := RX3) (T := TX3) (N := 4) hx hb hts hinX3 tyX3 tyX3_ok nmX3 hown hK hP hD hS 0 rfl rfl 2 (by decide) lk7 (fun _ h9 => h9) rfl hin rfl (by decide +kernel) rfl rfl (Nat.le_of_ble_eq_true rfl) rfl dX3_init_25 (fun H locs hP hD hS => ?_)
  have hP9 := hP.sub (ws' := [(a, .inr (3, [.ref q1, .ref q2, .ref q3, .int 0])), (q1, .inl (cI, 6, .inl (fun _ => 0))), (q2, .inl (cI, 6, .inl (fun _ => 0))), (q3, .inl (cZ, 6, .inl (fun _ => 0)))]) [0, 1, 2, 3] rfl
  have hD9 := hD.sub (ws' := [(a, .inr (3, [.ref q1, .ref q2, .ref q3, .int 0])), (q1, .inl (cI, 6, .inl (fun _ => 0))), (q2, .inl (cI, 6, .inl (fun _ => 0))), (q3, .inl (cZ, 6, .inl (fun _ => 0)))]) [0, 1, 2, 3] (by decide) rfl
  exact W.vret hx hb hr (fun t ht hW => ⟨⟨(fun k => match k with | 0 => q1 | 1 => q2 | _ => q3), rfl, trivial, by rw [ht]; exact hP9, va_K.moved hW.alike hK, hD9⟩, hS.F ht⟩) hS.2.2 dX3_init_28
theorem hdI_X4_init : yX4_init.cls ≠ "java/lang/invoke/MethodHandle" ∧ yX4_init.cls ≠ "java/lang/invoke/VarHandle" ∧ (parseMethodDescriptor yX4_init.desc).map (fun d => d.parameters.length) = some 0 := by decide +kernel
abbrev rmX4_init : Room := { frames := 1, cells := 2, slots := 22, locals := 12 }
set_option maxHeartbeats 4000000 in
set_option maxRecDepth 100000 in
theorem k_X4_init (l : Launch) (D : va_G) (cI cJ cZ : ClassId) (sz : Nat) (a : Nat)   : Met l yX4_init wsX4_init rmX4_init (sh_Pw D (sh_ty cI cJ cZ) sz [(a, .inr (4, [.null, .null]))] [.ref a]) (sh_Qn D (sh_ty cI cJ cZ) (va_A [(a, .inr (4, [.null, .null]))] sz) (fun u => [(a, .inr (4, [.ref (u 0), .ref (u 1)])), ((u 0), .inl (cJ, 20, .inr (.inl (fun _ => 0)))), ((u 1), .inl (cZ, 2, .inl (fun _ => 0)))])) 2 22 (va_A [(a, .inr (4, [.null, .null]))] sz) := by
  refine Met.ofW (cc := cX4_init) (maxL := 1) (ret := none) (by decide) rfl ?_
  intro p e s m args below meth c s₁ hB hml hv
  obtain ⟨hargs, hsz, hP, hK, hD0⟩ := hv
  have hx := hB.exec
  have hb := hB.bytes
  have hr := hB.returns
  have hts := atoms_spec (ws := wsX4_init) hB.pre
  have hown : s.vm.findClass RX4 = some m.cls := findClass_of_methodNamed hB.named
  have hlocks := hB.notSynchronized
  have hin : meth.name = "<init>" := (name_of_methodNamed hB.named hB.method).1
  have hfix : CallFix p m c cX4_init 1 s args wsX4_init RX4 := ⟨hx, hb, hml, hown, hts⟩
  have hinX4 : ∀ w ∈ wsX40, w ∈ wsX4_init := by decide +kernel
  have lk1 := hts (.methodLink RX4 3 objectInit) (by decide +kernel)
  have lk2 := hts (.instanceMethod objectInit) (by decide +kernel)
  have lk3 := hts (.arrayClass .long) (by decide +kernel)
  have lk4 := hts (.fieldLink RX4 11 "ShadeTree$Slots" "kept" "[J") (by decide +kernel)
  have lk5 := hts (.arrayClass .boolean) (by decide +kernel)
  have lk6 := hts (.fieldLink RX4 15 "ShadeTree$Slots" "used" "[Z") (by decide +kernel)
  have hcode0 := hts (.code objectInit ⟨#[0xb1]⟩ 1 none) (List.mem_of_getElem? (i := 3) rfl)
  rw [show entryFrame m args 1 = entryFrame m ([.ref a] : List Value).toArray 1 by rw [hargs], lg_entry_eq]
  have hl := lv_entry ([.ref a]) (n := 1) (Nat.le_of_ble_eq_true rfl)
  generalize (lg_sl ([.ref a]) ++ List.replicate (1 - (lg_sl ([.ref a])).length) Slot.unset).toArray = ls at hl ⊢
  have hl : lv_has ls 1 [(0, .ref a)] := hl
  subst hsz
  have hD := hD0.self (sz := s.heap.size)
  generalize hAe : va_A [(a, .inr (4, [.null, .null]))] s.heap.size = Az at hD ⊢
  have hA : ∀ q : Nat, s.heap.size ≤ q → Az q := fun q h => by rw [← hAe]; exact Or.inr h
  have hS : va_S Az s.heap s.heap [] := va_S.rf
  refine lv_aload_n hx hb dX4_init_0 rfl (lv_at hl 0 rfl) ?_
  refine W.objInit hx hb hown lk1 lk2 hcode0 rfl (by rw [hml]; exact hl.1) rfl dX4_init_1 (Nat.le_of_ble_eq_true rfl) (Nat.le_of_ble_eq_true rfl) ?_
  refine W.eq (g2 := F0 m 4 ls []) rfl ?_
  refine lv_aload_n hx hb dX4_init_4 rfl (lv_at hl 0 rfl) ?_
  refine lv_bipush (v := 20) hx hb dX4_init_5 (by decide) ?_
  refine sh_newa (atype := .long) (N' := 20) (a0 := (20, .inr (.inl (fun _ => 0)))) hx hb (lk3) rfl rfl hK 1 rfl hP hD hS hA (fun _ => rfl) (by decide) (by decide) (by decide) (Nat.le_of_ble_eq_true rfl) (Nat.le_of_ble_eq_true rfl) dX4_init_7 (fun q1 H hP hD hS => ?_)
  have hP : va_P D vwCl [(a, .inr (4, [.null, .null])), (q1, .inl (cJ, 20, .inr (.inl (fun _ => 0))))] H := hP
  have hD : va_D Az [(a, .inr (4, [.null, .null])), (q1, .inl (cJ, 20, .inr (.inl (fun _ => 0))))] := hD
  refine W.widen (k := 1) (n := 20) (Nat.le_of_ble_eq_true rfl) (Nat.le_of_ble_eq_true rfl) ?_
  refine sh_putF (wn := [(a, .inr (4, [.ref q1, .null])), (q1, .inl (cJ, 20, .inr (.inl (fun _ => 0))))]) (ci := 4) (v := .ref q1) (ty := .array .long) (C := RX4) (T := TX4) (N := 2) hx hb hts hinX4 tyX4 tyX4_ok nmX4 hown hK hP hD hS 0 rfl rfl 0 (by decide) lk4 (fun _ h9 => h9) rfl hin rfl (by decide +kernel) rfl rfl (Nat.le_of_ble_eq_true rfl) rfl dX4_init_9 (fun H locs hP hD hS => ?_)
  refine lv_aload_n hx hb dX4_init_12 rfl (lv_at hl 0 rfl) ?_
  refine lv_iconst (v := 2) hx hb dX4_init_13 (by decide) ?_
  refine sh_newa (atype := .boolean) (N' := 2) (a0 := (2, .inl (fun _ => 0))) hx hb (lk5) rfl rfl hK 2 rfl hP hD hS hA (fun _ => rfl) (by decide) (by decide) (by decide) (Nat.le_of_ble_eq_true rfl) (Nat.le_of_ble_eq_true rfl) dX4_init_14 (fun q2 H hP hD hS => ?_)
  have hP : va_P D vwCl [(a, .inr (4, [.ref q1, .null])), (q1, .inl (cJ, 20, .inr (.inl (fun _ => 0)))), (q2, .inl (cZ, 2, .inl (fun _ => 0)))] H := hP
  have hD : va_D Az [(a, .inr (4, [.ref q1, .null])), (q1, .inl (cJ, 20, .inr (.inl (fun _ => 0)))), (q2, .inl (cZ, 2, .inl (fun _ => 0)))] := hD
  refine W.widen (k := 2) (n := 22) (Nat.le_of_ble_eq_true rfl) (Nat.le_of_ble_eq_true rfl) ?_
  refine sh_putF (wn := [(a, .inr (4, [.ref q1, .ref q2])), (q1, .inl (cJ, 20, .inr (.inl (fun _ => 0)))), (q2, .inl (cZ, 2, .inl (fun _ => 0)))]) (ci := 4) (v := .ref q2) (ty := .array .boolean) (C := RX4) (T := TX4) (N := 2) hx hb hts hinX4 tyX4 tyX4_ok nmX4 hown hK hP hD hS 0 rfl rfl 1 (by decide) lk6 (fun _ h9 => h9) rfl hin rfl (by decide +kernel) rfl rfl (Nat.le_of_ble_eq_true rfl) rfl dX4_init_16 (fun H locs hP hD hS => ?_)
  have hP9 := hP.sub (ws' := [(a, .inr (4, [.ref q1, .ref q2])), (q1, .inl (cJ, 20, .inr (.inl (fun _ => 0)))), (q2, .inl (cZ, 2, .inl (fun _ => 0)))]) [0, 1, 2] rfl
  have hD9 := hD.sub (ws' := [(a, .inr (4, [.ref q1, .ref q2])), (q1, .inl (cJ, 20, .inr (.inl (fun _ => 0)))), (q2, .inl (cZ, 2, .inl (fun _ => 0)))]) [0, 1, 2] (by decide) rfl
  exact W.vret hx hb hr (fun t ht hW => ⟨⟨(fun k => match k with | 0 => q1 | _ => q2), rfl, trivial, by rw [ht]; exact hP9, va_K.moved hW.alike hK, hD9⟩, hS.F ht⟩) hS.2.2 dX4_init_19
theorem hdI_X5_init : yX5_init.cls ≠ "java/lang/invoke/MethodHandle" ∧ yX5_init.cls ≠ "java/lang/invoke/VarHandle" ∧ (parseMethodDescriptor yX5_init.desc).map (fun d => d.parameters.length) = some 0 := by decide +kernel
abbrev rmX5_init : Room := { frames := 1, cells := 1, slots := 40, locals := 12 }
set_option maxHeartbeats 4000000 in
set_option maxRecDepth 100000 in
theorem k_X5_init (l : Launch) (D : va_G) (cI cJ cZ : ClassId) (sz : Nat) (a : Nat)   : Met l yX5_init wsX5_init rmX5_init (sh_Pw D (sh_ty cI cJ cZ) sz [(a, .inr (5, [.null, .int 0]))] [.ref a]) (sh_Qn D (sh_ty cI cJ cZ) (va_A [(a, .inr (5, [.null, .int 0]))] sz) (fun u => [(a, .inr (5, [.ref (u 0), .int 0])), ((u 0), .inl (cI, 40, .inl (fun _ => 0)))])) 1 40 (va_A [(a, .inr (5, [.null, .int 0]))] sz) := by
  refine Met.ofW (cc := cX5_init) (maxL := 1) (ret := none) (by decide) rfl ?_
  intro p e s m args below meth c s₁ hB hml hv
  obtain ⟨hargs, hsz, hP, hK, hD0⟩ := hv
  have hx := hB.exec
  have hb := hB.bytes
  have hr := hB.returns
  have hts := atoms_spec (ws := wsX5_init) hB.pre
  have hown : s.vm.findClass RX5 = some m.cls := findClass_of_methodNamed hB.named
  have hlocks := hB.notSynchronized
  have hin : meth.name = "<init>" := (name_of_methodNamed hB.named hB.method).1
  have hfix : CallFix p m c cX5_init 1 s args wsX5_init RX5 := ⟨hx, hb, hml, hown, hts⟩
  have hinX5 : ∀ w ∈ wsX50, w ∈ wsX5_init := by decide +kernel
  have lk1 := hts (.methodLink RX5 3 objectInit) (by decide +kernel)
  have lk2 := hts (.instanceMethod objectInit) (by decide +kernel)
  have lk3 := hts (.arrayClass .int) (by decide +kernel)
  have lk4 := hts (.fieldLink RX5 11 "ShadeTree$Text" "letters" "[I") (by decide +kernel)
  have hcode0 := hts (.code objectInit ⟨#[0xb1]⟩ 1 none) (List.mem_of_getElem? (i := 3) rfl)
  rw [show entryFrame m args 1 = entryFrame m ([.ref a] : List Value).toArray 1 by rw [hargs], lg_entry_eq]
  have hl := lv_entry ([.ref a]) (n := 1) (Nat.le_of_ble_eq_true rfl)
  generalize (lg_sl ([.ref a]) ++ List.replicate (1 - (lg_sl ([.ref a])).length) Slot.unset).toArray = ls at hl ⊢
  have hl : lv_has ls 1 [(0, .ref a)] := hl
  subst hsz
  have hD := hD0.self (sz := s.heap.size)
  generalize hAe : va_A [(a, .inr (5, [.null, .int 0]))] s.heap.size = Az at hD ⊢
  have hA : ∀ q : Nat, s.heap.size ≤ q → Az q := fun q h => by rw [← hAe]; exact Or.inr h
  have hS : va_S Az s.heap s.heap [] := va_S.rf
  refine lv_aload_n hx hb dX5_init_0 rfl (lv_at hl 0 rfl) ?_
  refine W.objInit hx hb hown lk1 lk2 hcode0 rfl (by rw [hml]; exact hl.1) rfl dX5_init_1 (Nat.le_of_ble_eq_true rfl) (Nat.le_of_ble_eq_true rfl) ?_
  refine W.eq (g2 := F0 m 4 ls []) rfl ?_
  refine lv_aload_n hx hb dX5_init_4 rfl (lv_at hl 0 rfl) ?_
  refine lv_bipush (v := 40) hx hb dX5_init_5 (by decide) ?_
  refine sh_newa (atype := .int) (N' := 40) (a0 := (40, .inl (fun _ => 0))) hx hb (lk3) rfl rfl hK 0 rfl hP hD hS hA (fun _ => rfl) (by decide) (by decide) (by decide) (Nat.le_of_ble_eq_true rfl) (Nat.le_of_ble_eq_true rfl) dX5_init_7 (fun q1 H hP hD hS => ?_)
  have hP : va_P D vwCl [(a, .inr (5, [.null, .int 0])), (q1, .inl (cI, 40, .inl (fun _ => 0)))] H := hP
  have hD : va_D Az [(a, .inr (5, [.null, .int 0])), (q1, .inl (cI, 40, .inl (fun _ => 0)))] := hD
  refine W.widen (k := 1) (n := 40) (Nat.le_of_ble_eq_true rfl) (Nat.le_of_ble_eq_true rfl) ?_
  refine sh_putF (wn := [(a, .inr (5, [.ref q1, .int 0])), (q1, .inl (cI, 40, .inl (fun _ => 0)))]) (ci := 5) (v := .ref q1) (ty := .array .int) (C := RX5) (T := TX5) (N := 2) hx hb hts hinX5 tyX5 tyX5_ok nmX5 hown hK hP hD hS 0 rfl rfl 0 (by decide) lk4 (fun _ h9 => h9) rfl hin rfl (by decide +kernel) rfl rfl (Nat.le_of_ble_eq_true rfl) rfl dX5_init_9 (fun H locs hP hD hS => ?_)
  have hP9 := hP.sub (ws' := [(a, .inr (5, [.ref q1, .int 0])), (q1, .inl (cI, 40, .inl (fun _ => 0)))]) [0, 1] rfl
  have hD9 := hD.sub (ws' := [(a, .inr (5, [.ref q1, .int 0])), (q1, .inl (cI, 40, .inl (fun _ => 0)))]) [0, 1] (by decide) rfl
  exact W.vret hx hb hr (fun t ht hW => ⟨⟨(fun _ => q1), rfl, trivial, by rw [ht]; exact hP9, va_K.moved hW.alike hK, hD9⟩, hS.F ht⟩) hS.2.2 dX5_init_12
theorem hdI_X6_init : yX6_init.cls ≠ "java/lang/invoke/MethodHandle" ∧ yX6_init.cls ≠ "java/lang/invoke/VarHandle" ∧ (parseMethodDescriptor yX6_init.desc).map (fun d => d.parameters.length) = some 2 := by decide +kernel
abbrev rmX6_init : Room := { frames := 1, cells := 2, slots := 72, locals := 12 }
set_option maxHeartbeats 4000000 in
set_option maxRecDepth 100000 in
theorem k_X6_init (l : Launch) (D : va_G) (cI cJ cZ : ClassId) (sz : Nat) (a : Nat) (aG : Nat) (aS : Nat)   : Met l yX6_init wsX6_init rmX6_init (sh_Pw D (sh_ty cI cJ cZ) sz [(a, .inr (6, [.null, .null, .null, .null, .int 0]))] [.ref a, .ref aG, .ref aS]) (sh_Qn D (sh_ty cI cJ cZ) (va_A [(a, .inr (6, [.null, .null, .null, .null, .int 0]))] sz) (fun u => [(a, .inr (6, [.ref aG, .ref aS, .ref (u 0), .ref (u 1), .int 0])), ((u 0), .inl (cJ, 36, .inr (.inl (fun _ => 0)))), ((u 1), .inl (cI, 36, .inl (fun _ => 0)))])) 2 72 (va_A [(a, .inr (6, [.null, .null, .null, .null, .int 0]))] sz) := by
  refine Met.ofW (cc := cX6_init) (maxL := 3) (ret := none) (by decide) rfl ?_
  intro p e s m args below meth c s₁ hB hml hv
  obtain ⟨hargs, hsz, hP, hK, hD0⟩ := hv
  have hx := hB.exec
  have hb := hB.bytes
  have hr := hB.returns
  have hts := atoms_spec (ws := wsX6_init) hB.pre
  have hown : s.vm.findClass RX6 = some m.cls := findClass_of_methodNamed hB.named
  have hlocks := hB.notSynchronized
  have hin : meth.name = "<init>" := (name_of_methodNamed hB.named hB.method).1
  have hfix : CallFix p m c cX6_init 3 s args wsX6_init RX6 := ⟨hx, hb, hml, hown, hts⟩
  have hinX6 : ∀ w ∈ wsX60, w ∈ wsX6_init := by decide +kernel
  have lk1 := hts (.methodLink RX6 3 objectInit) (by decide +kernel)
  have lk2 := hts (.instanceMethod objectInit) (by decide +kernel)
  have lk3 := hts (.arrayClass .long) (by decide +kernel)
  have lk4 := hts (.fieldLink RX6 9 "ShadeTree$Tree" "nodeParts" "[J") (by decide +kernel)
  have lk5 := hts (.arrayClass .int) (by decide +kernel)
  have lk6 := hts (.fieldLink RX6 15 "ShadeTree$Tree" "nodeLevels" "[I") (by decide +kernel)
  have lk7 := hts (.fieldLink RX6 19 "ShadeTree$Tree" "grid" "LShadeTree$Grid;") (by decide +kernel)
  have lk8 := hts (.fieldLink RX6 23 "ShadeTree$Tree" "shades" "LShadeTree$Shades;") (by decide +kernel)
  have hcode0 := hts (.code objectInit ⟨#[0xb1]⟩ 1 none) (List.mem_of_getElem? (i := 3) rfl)
  rw [show entryFrame m args 3 = entryFrame m ([.ref a, .ref aG, .ref aS] : List Value).toArray 3 by rw [hargs], lg_entry_eq]
  have hl := lv_entry ([.ref a, .ref aG, .ref aS]) (n := 3) (Nat.le_of_ble_eq_true rfl)
  generalize (lg_sl ([.ref a, .ref aG, .ref aS]) ++ List.replicate (3 - (lg_sl ([.ref a, .ref aG, .ref aS])).length) Slot.unset).toArray = ls at hl ⊢
  have hl : lv_has ls 3 [(0, .ref a), (1, .ref aG), (2, .ref aS)] := hl
  subst hsz
  have hD := hD0.self (sz := s.heap.size)
  generalize hAe : va_A [(a, .inr (6, [.null, .null, .null, .null, .int 0]))] s.heap.size = Az at hD ⊢
  have hA : ∀ q : Nat, s.heap.size ≤ q → Az q := fun q h => by rw [← hAe]; exact Or.inr h
  have hS : va_S Az s.heap s.heap [] := va_S.rf
  refine lv_aload_n hx hb dX6_init_0 rfl (lv_at hl 0 rfl) ?_
  refine W.objInit hx hb hown lk1 lk2 hcode0 rfl (by rw [hml]; exact hl.1) rfl dX6_init_1 (Nat.le_of_ble_eq_true rfl) (Nat.le_of_ble_eq_true rfl) ?_
  refine W.eq (g2 := F0 m 4 ls []) rfl ?_
  refine lv_aload_n hx hb dX6_init_4 rfl (lv_at hl 0 rfl) ?_
  refine lv_bipush (v := 36) hx hb dX6_init_5 (by decide) ?_
  refine sh_newa (atype := .long) (N' := 36) (a0 := (36, .inr (.inl (fun _ => 0)))) hx hb (lk3) rfl rfl hK 1 rfl hP hD hS hA (fun _ => rfl) (by decide) (by decide) (by decide) (Nat.le_of_ble_eq_true rfl) (Nat.le_of_ble_eq_true rfl) dX6_init_7 (fun q1 H hP hD hS => ?_)
  have hP : va_P D vwCl [(a, .inr (6, [.null, .null, .null, .null, .int 0])), (q1, .inl (cJ, 36, .inr (.inl (fun _ => 0))))] H := hP
  have hD : va_D Az [(a, .inr (6, [.null, .null, .null, .null, .int 0])), (q1, .inl (cJ, 36, .inr (.inl (fun _ => 0))))] := hD
  refine W.widen (k := 1) (n := 36) (Nat.le_of_ble_eq_true rfl) (Nat.le_of_ble_eq_true rfl) ?_
  refine sh_putF (wn := [(a, .inr (6, [.null, .null, .ref q1, .null, .int 0])), (q1, .inl (cJ, 36, .inr (.inl (fun _ => 0))))]) (ci := 6) (v := .ref q1) (ty := .array .long) (C := RX6) (T := TX6) (N := 5) hx hb hts hinX6 tyX6 tyX6_ok nmX6 hown hK hP hD hS 0 rfl rfl 2 (by decide) lk4 (fun _ h9 => h9) rfl hin rfl (by decide +kernel) rfl rfl (Nat.le_of_ble_eq_true rfl) rfl dX6_init_9 (fun H locs hP hD hS => ?_)
  refine lv_aload_n hx hb dX6_init_12 rfl (lv_at hl 0 rfl) ?_
  refine lv_bipush (v := 36) hx hb dX6_init_13 (by decide) ?_
  refine sh_newa (atype := .int) (N' := 36) (a0 := (36, .inl (fun _ => 0))) hx hb (lk5) rfl rfl hK 0 rfl hP hD hS hA (fun _ => rfl) (by decide) (by decide) (by decide) (Nat.le_of_ble_eq_true rfl) (Nat.le_of_ble_eq_true rfl) dX6_init_15 (fun q2 H hP hD hS => ?_)
  have hP : va_P D vwCl [(a, .inr (6, [.null, .null, .ref q1, .null, .int 0])), (q1, .inl (cJ, 36, .inr (.inl (fun _ => 0)))), (q2, .inl (cI, 36, .inl (fun _ => 0)))] H := hP
  have hD : va_D Az [(a, .inr (6, [.null, .null, .ref q1, .null, .int 0])), (q1, .inl (cJ, 36, .inr (.inl (fun _ => 0)))), (q2, .inl (cI, 36, .inl (fun _ => 0)))] := hD
  refine W.widen (k := 2) (n := 72) (Nat.le_of_ble_eq_true rfl) (Nat.le_of_ble_eq_true rfl) ?_
  refine sh_putF (wn := [(a, .inr (6, [.null, .null, .ref q1, .ref q2, .int 0])), (q1, .inl (cJ, 36, .inr (.inl (fun _ => 0)))), (q2, .inl (cI, 36, .inl (fun _ => 0)))]) (ci := 6) (v := .ref q2) (ty := .array .int) (C := RX6) (T := TX6) (N := 5) hx hb hts hinX6 tyX6 tyX6_ok nmX6 hown hK hP hD hS 0 rfl rfl 3 (by decide) lk6 (fun _ h9 => h9) rfl hin rfl (by decide +kernel) rfl rfl (Nat.le_of_ble_eq_true rfl) rfl dX6_init_17 (fun H locs hP hD hS => ?_)
  refine lv_aload_n hx hb dX6_init_20 rfl (lv_at hl 0 rfl) ?_
  refine lv_aload_n hx hb dX6_init_21 rfl (lv_at hl 1 rfl) ?_
  refine sh_putF (wn := [(a, .inr (6, [.ref aG, .null, .ref q1, .ref q2, .int 0])), (q1, .inl (cJ, 36, .inr (.inl (fun _ => 0)))), (q2, .inl (cI, 36, .inl (fun _ => 0)))]) (ci := 6) (v := .ref aG) (ty := .object "ShadeTree$Grid") (C := RX6) (T := TX6) (N := 5) hx hb hts hinX6 tyX6 tyX6_ok nmX6 hown hK hP hD hS 0 rfl rfl 0 (by decide) lk7 (fun _ h9 => h9) rfl hin rfl (by decide +kernel) rfl rfl (Nat.le_of_ble_eq_true rfl) rfl dX6_init_22 (fun H locs hP hD hS => ?_)
  refine lv_aload_n hx hb dX6_init_25 rfl (lv_at hl 0 rfl) ?_
  refine lv_aload_n hx hb dX6_init_26 rfl (lv_at hl 2 rfl) ?_
  refine sh_putF (wn := [(a, .inr (6, [.ref aG, .ref aS, .ref q1, .ref q2, .int 0])), (q1, .inl (cJ, 36, .inr (.inl (fun _ => 0)))), (q2, .inl (cI, 36, .inl (fun _ => 0)))]) (ci := 6) (v := .ref aS) (ty := .object "ShadeTree$Shades") (C := RX6) (T := TX6) (N := 5) hx hb hts hinX6 tyX6 tyX6_ok nmX6 hown hK hP hD hS 0 rfl rfl 1 (by decide) lk8 (fun _ h9 => h9) rfl hin rfl (by decide +kernel) rfl rfl (Nat.le_of_ble_eq_true rfl) rfl dX6_init_27 (fun H locs hP hD hS => ?_)
  have hP9 := hP.sub (ws' := [(a, .inr (6, [.ref aG, .ref aS, .ref q1, .ref q2, .int 0])), (q1, .inl (cJ, 36, .inr (.inl (fun _ => 0)))), (q2, .inl (cI, 36, .inl (fun _ => 0)))]) [0, 1, 2] rfl
  have hD9 := hD.sub (ws' := [(a, .inr (6, [.ref aG, .ref aS, .ref q1, .ref q2, .int 0])), (q1, .inl (cJ, 36, .inr (.inl (fun _ => 0)))), (q2, .inl (cI, 36, .inl (fun _ => 0)))]) [0, 1, 2] (by decide) rfl
  exact W.vret hx hb hr (fun t ht hW => ⟨⟨(fun k => match k with | 0 => q1 | _ => q2), rfl, trivial, by rw [ht]; exact hP9, va_K.moved hW.alike hK, hD9⟩, hS.F ht⟩) hS.2.2 dX6_init_30
