theorem hdV_X0_size : yX0_size.cls = RX0 ∧ yX0_size.cls ≠ "java/lang/invoke/MethodHandle" ∧ yX0_size.cls ≠ "java/lang/invoke/VarHandle" ∧ (parseMethodDescriptor yX0_size.desc).map (fun d => d.parameters.length) = some 0 := by decide +kernel
abbrev rmX0_size : Room := { frames := 0, cells := 0, slots := 0, locals := 0 }
set_option maxHeartbeats 4000000 in
set_option maxRecDepth 100000 in
theorem k_X0_size (l : Launch) (D : va_G) (cI cJ cZ : ClassId) (aO : Nat) (aB : Nat) (oB : Nat → Int64) (oz : Int32) (o : Int32) (h : fX0_size oz = some o) : Met l yX0_size wsX0_size rmX0_size (sh_Pr D (sh_ty cI cJ cZ) [(aO, .inr (0, [.ref aB, .int oz])), (aB, .inl (cJ, 140, .inr (.inl oB)))] [.ref aO]) (vp_Si (fun z => z = o)) 0 0 (fun _ => False) := by
  refine Met.ofW (cc := cX0_size) (maxL := 1) (ret := (some .int)) (by decide) rfl ?_
  intro p e s m args below meth c s₁ hB hml hv
  obtain ⟨hargs, hP, hK⟩ := hv
  have hx := hB.exec
  have hb := hB.bytes
  have hr := hB.returns
  have hts := atoms_spec (ws := wsX0_size) hB.pre
  have hown : s.vm.findClass RX0 = some m.cls := findClass_of_methodNamed hB.named
  have hlocks := hB.notSynchronized
  have hfix : CallFix p m c cX0_size 1 s args wsX0_size RX0 := ⟨hx, hb, hml, hown, hts⟩
  have hinX0 : ∀ w ∈ wsX00, w ∈ wsX0_size := by decide +kernel
  have lk1 := hts (.fieldLink RX0 15 "ShadeTree$Doings" "size" "I") (by decide +kernel)
  rw [show entryFrame m args 1 = entryFrame m ([.ref aO] : List Value).toArray 1 by rw [hargs], lg_entry_eq]
  have hl := lv_entry ([.ref aO]) (n := 1) (Nat.le_of_ble_eq_true rfl)
  generalize (lg_sl ([.ref aO]) ++ List.replicate (1 - (lg_sl ([.ref aO])).length) Slot.unset).toArray = ls at hl ⊢
  have hl : lv_has ls 1 [(0, .ref aO)] := hl
  generalize hQ : MQ below (vp_Si (fun z => z = o)) args s 0 0 (fun _ => False) = Q
  unfold fX0_size at h
  refine lv_aload_n hx hb dX0_size_0 rfl (lv_at hl 0 rfl) ?_
  refine va_get (ci := 0) (v := .int oz) (C := RX0) (T := TX0) (N := 2) hx hb hts hinX0 hown hK hP 0 rfl rfl 1 (by decide) lk1 (fun _ h9 => h9) rfl dX0_size_1 ?_
  exact sh_roi hx hb hr hlocks hQ (Option.some.inj h) dX0_size_4
theorem hdV_X0_clear : yX0_clear.cls = RX0 ∧ yX0_clear.cls ≠ "java/lang/invoke/MethodHandle" ∧ yX0_clear.cls ≠ "java/lang/invoke/VarHandle" ∧ (parseMethodDescriptor yX0_clear.desc).map (fun d => d.parameters.length) = some 0 := by decide +kernel
abbrev rmX0_clear : Room := { frames := 0, cells := 0, slots := 0, locals := 0 }
set_option maxHeartbeats 4000000 in
set_option maxRecDepth 100000 in
theorem k_X0_clear (l : Launch) (D : va_G) (cI cJ cZ : ClassId) (sz : Nat) (aO : Nat) (aB : Nat) (oB : Nat → Int64) (oz : Int32) (ooz : Int32) (h : fX0_clear = some ooz) : Met l yX0_clear wsX0_clear rmX0_clear (sh_Pw D (sh_ty cI cJ cZ) sz [(aO, .inr (0, [.ref aB, .int oz])), (aB, .inl (cJ, 140, .inr (.inl oB)))] [.ref aO]) (sh_Qv D (sh_ty cI cJ cZ) (va_A [(aO, .inr (0, [.ref aB, .int oz])), (aB, .inl (cJ, 140, .inr (.inl oB)))] sz) [(aO, .inr (0, [.ref aB, .int ooz])), (aB, .inl (cJ, 140, .inr (.inl oB)))]) 0 0 (va_A [(aO, .inr (0, [.ref aB, .int oz])), (aB, .inl (cJ, 140, .inr (.inl oB)))] sz) := by
  refine Met.ofW (cc := cX0_clear) (maxL := 1) (ret := none) (by decide) rfl ?_
  intro p e s m args below meth c s₁ hB hml hv
  obtain ⟨hargs, hsz, hP, hK, hD0⟩ := hv
  have hx := hB.exec
  have hb := hB.bytes
  have hr := hB.returns
  have hts := atoms_spec (ws := wsX0_clear) hB.pre
  have hown : s.vm.findClass RX0 = some m.cls := findClass_of_methodNamed hB.named
  have hlocks := hB.notSynchronized
  have hfix : CallFix p m c cX0_clear 1 s args wsX0_clear RX0 := ⟨hx, hb, hml, hown, hts⟩
  have hinX0 : ∀ w ∈ wsX00, w ∈ wsX0_clear := by decide +kernel
  have lk1 := hts (.fieldLink RX0 15 "ShadeTree$Doings" "size" "I") (by decide +kernel)
  rw [show entryFrame m args 1 = entryFrame m ([.ref aO] : List Value).toArray 1 by rw [hargs], lg_entry_eq]
  have hl := lv_entry ([.ref aO]) (n := 1) (Nat.le_of_ble_eq_true rfl)
  generalize (lg_sl ([.ref aO]) ++ List.replicate (1 - (lg_sl ([.ref aO])).length) Slot.unset).toArray = ls at hl ⊢
  have hl : lv_has ls 1 [(0, .ref aO)] := hl
  subst hsz
  have hD := hD0.self (sz := s.heap.size)
  generalize hAe : va_A [(aO, .inr (0, [.ref aB, .int oz])), (aB, .inl (cJ, 140, .inr (.inl oB)))] s.heap.size = Az at hD ⊢
  have hA : ∀ q : Nat, s.heap.size ≤ q → Az q := fun q h => by rw [← hAe]; exact Or.inr h
  have hS : va_S Az s.heap s.heap [] := va_S.rf
  generalize hQ : MQ below (sh_Qv D (sh_ty cI cJ cZ) Az [(aO, .inr (0, [.ref aB, .int ooz])), (aB, .inl (cJ, 140, .inr (.inl oB)))]) args s 0 0 Az = Q
  unfold fX0_clear at h
  refine lv_aload_n hx hb dX0_clear_0 rfl (lv_at hl 0 rfl) ?_
  refine lv_iconst (v := 0) hx hb dX0_clear_1 (by decide) ?_
  refine sh_put (wn := [(aO, .inr (0, [.ref aB, .int 0])), (aB, .inl (cJ, 140, .inr (.inl oB)))]) (ci := 0) (v := .int 0) (ty := .int) (C := RX0) (T := TX0) (N := 2) hx hb hts hinX0 tyX0 tyX0_ok nmX0 hown hK hP hD hS 0 rfl rfl 1 (by decide) lk1 (fun _ h9 => h9) rfl (by decide +kernel) rfl rfl (Nat.le_of_ble_eq_true rfl) rfl dX0_clear_2 (fun H locs hP hD hS => ?_)
  cases h
  exact sh_rwv hx hb hr hlocks hQ hK hP hD hS dX0_clear_5
theorem hdV_X2_store : yX2_store.cls = RX2 ∧ yX2_store.cls ≠ "java/lang/invoke/MethodHandle" ∧ yX2_store.cls ≠ "java/lang/invoke/VarHandle" ∧ (parseMethodDescriptor yX2_store.desc).map (fun d => d.parameters.length) = some 2 := by decide +kernel
abbrev rmX2_store : Room := { frames := 1, cells := 0, slots := 0, locals := 40 }
set_option maxHeartbeats 4000000 in
set_option maxRecDepth 100000 in
theorem k_X2_store (l : Launch) (D : va_G) (cI cJ cZ : ClassId) (sz : Nat) (aG : Nat) (aS : Nat) (aY : Nat) (aR : Nat) (sL : Nat → Int64) (rn : Nat) (rL : Nat → Int64) (x2 : Int32) (orL : Nat → Int64) (h : fX2_store sL rn rL x2 = some orL) : Met l yX2_store wsX2_store rmX2_store (sh_Pw D (sh_ty cI cJ cZ) sz [(aS, .inr (2, [.ref aG, .ref aY])), (aY, .inl (cJ, 10, .inr (.inl sL))), (aR, .inl (cJ, rn, .inr (.inl rL)))] [.ref aS, .ref aR, .int x2]) (sh_Qv D (sh_ty cI cJ cZ) (va_A [(aS, .inr (2, [.ref aG, .ref aY])), (aY, .inl (cJ, 10, .inr (.inl sL))), (aR, .inl (cJ, rn, .inr (.inl rL)))] sz) [(aS, .inr (2, [.ref aG, .ref aY])), (aY, .inl (cJ, 10, .inr (.inl sL))), (aR, .inl (cJ, rn, .inr (.inl orL)))]) 0 0 (va_A [(aS, .inr (2, [.ref aG, .ref aY])), (aY, .inl (cJ, 10, .inr (.inl sL))), (aR, .inl (cJ, rn, .inr (.inl rL)))] sz) := by
  refine Met.ofW (cc := cX2_store) (maxL := 3) (ret := none) (by decide) rfl ?_
  intro p e s m args below meth c s₁ hB hml hv
  obtain ⟨hargs, hsz, hP, hK, hD0⟩ := hv
  have hx := hB.exec
  have hb := hB.bytes
  have hr := hB.returns
  have hts := atoms_spec (ws := wsX2_store) hB.pre
  have hown : s.vm.findClass RX2 = some m.cls := findClass_of_methodNamed hB.named
  have hlocks := hB.notSynchronized
  have hfix : CallFix p m c cX2_store 3 s args wsX2_store RX2 := ⟨hx, hb, hml, hown, hts⟩
  have hinX2 : ∀ w ∈ wsX20, w ∈ wsX2_store := by decide +kernel
  have lk1 := hts (.fieldLink RX2 9 "ShadeTree$Shades" "layers" "[J") (by decide +kernel)
  have lk2 := hts (.methodLink RX2 70 arraycopyName) (by decide +kernel)
  have lk3 := hts (.native arraycopyName) (by decide +kernel)
  have lk4 := hts (.static arraycopyName) (by decide +kernel)
  have lk5 := hts (.initialized "java/lang/System") (by decide +kernel)
  rw [show entryFrame m args 3 = entryFrame m ([.ref aS, .ref aR, .int x2] : List Value).toArray 3 by rw [hargs], lg_entry_eq]
  have hl := lv_entry ([.ref aS, .ref aR, .int x2]) (n := 3) (Nat.le_of_ble_eq_true rfl)
  generalize (lg_sl ([.ref aS, .ref aR, .int x2]) ++ List.replicate (3 - (lg_sl ([.ref aS, .ref aR, .int x2])).length) Slot.unset).toArray = ls at hl ⊢
  have hl : lv_has ls 3 [(0, .ref aS), (1, .ref aR), (2, .int x2)] := hl
  subst hsz
  have hD := hD0.self (sz := s.heap.size)
  generalize hAe : va_A [(aS, .inr (2, [.ref aG, .ref aY])), (aY, .inl (cJ, 10, .inr (.inl sL))), (aR, .inl (cJ, rn, .inr (.inl rL)))] s.heap.size = Az at hD ⊢
  have hA : ∀ q : Nat, s.heap.size ≤ q → Az q := fun q h => by rw [← hAe]; exact Or.inr h
  have hS : va_S Az s.heap s.heap [] := va_S.rf
  generalize hQ : MQ below (sh_Qv D (sh_ty cI cJ cZ) Az [(aS, .inr (2, [.ref aG, .ref aY])), (aY, .inl (cJ, 10, .inr (.inl sL))), (aR, .inl (cJ, rn, .inr (.inl orL)))]) args s 0 0 Az = Q
  unfold fX2_store at h
  refine lv_aload_n hx hb dX2_store_0 rfl (lv_at hl 1 rfl) ?_
  refine lv_ifnull hx hb dX2_store_1 ?_
  refine lv_iload_n hx hb dX2_store_4 rfl (lv_at hl 2 rfl) ?_
  refine lv_if_lt (tgt := 35) hx hb dX2_store_5 (by decide) (fun g1 => ?_) (fun g1 => ?_)
  · rw [if_pos g1] at h
    cases h
    exact sh_rwv hx hb hr hlocks hQ hK hP hD hS dX2_store_35
  · rw [if_neg g1] at h
    refine lv_iload_n hx hb dX2_store_8 rfl (lv_at hl 2 rfl) ?_
    refine lv_aload_n hx hb dX2_store_9 rfl (lv_at hl 1 rfl) ?_
    refine va_alen (v := (Int32.ofNat rn)) hx hb hK hP 2 1 rfl rfl rfl dX2_store_10 ?_
    refine lv_aload_n hx hb dX2_store_11 rfl (lv_at hl 0 rfl) ?_
    refine va_get (ci := 2) (v := .ref aY) (C := RX2) (T := TX2) (N := 2) hx hb hts hinX2 hown hK hP 0 rfl rfl 1 (by decide) lk1 (fun _ h9 => h9) rfl dX2_store_12 ?_
    refine va_alen (v := 10) hx hb hK hP 1 1 rfl rfl rfl dX2_store_15 ?_
    refine lv_isub hx hb dX2_store_16 ?_
    refine lv_icmp_gt (tgt := 35) hx hb dX2_store_17 (by decide) (fun g2 => ?_) (fun g2 => ?_)
    · rw [if_pos g2] at h
      cases h
      exact sh_rwv hx hb hr hlocks hQ hK hP hD hS dX2_store_35
    · rw [if_neg g2] at h
      refine lv_aload_n hx hb dX2_store_20 rfl (lv_at hl 0 rfl) ?_
      refine va_get (ci := 2) (v := .ref aY) (C := RX2) (T := TX2) (N := 2) hx hb hts hinX2 hown hK hP 0 rfl rfl 1 (by decide) lk1 (fun _ h9 => h9) rfl dX2_store_21 ?_
      refine lv_iconst (v := 0) hx hb dX2_store_24 (by decide) ?_
      refine lv_aload_n hx hb dX2_store_25 rfl (lv_at hl 1 rfl) ?_
      refine lv_iload_n hx hb dX2_store_26 rfl (lv_at hl 2 rfl) ?_
      refine lv_aload_n hx hb dX2_store_27 rfl (lv_at hl 0 rfl) ?_
      refine va_get (ci := 2) (v := .ref aY) (C := RX2) (T := TX2) (N := 2) hx hb hts hinX2 hown hK hP 0 rfl rfl 1 (by decide) lk1 (fun _ h9 => h9) rfl dX2_store_28 ?_
      refine va_alen (v := 10) hx hb hK hP 1 1 rfl rfl rfl dX2_store_31 ?_
      obtain ⟨f3, hcf3, h⟩ := sh_b1_e h
      refine sh_copyl (wn := [(aS, .inr (2, [.ref aG, .ref aY])), (aY, .inl (cJ, 10, .inr (.inl sL))), (aR, .inl (cJ, rn, .inr (.inl f3)))]) hx hb (hml.trans hl.1.symm) hown lk2 lk3 lk4 lk5 hK hP hD hS 1 2 1 rfl rfl rfl (sh_cpy_e hcf3) rfl (Nat.le_of_ble_eq_true rfl) (by decide) dX2_store_32 (fun H locs hP hD hS => ?_)
      cases h
      exact sh_rwv hx hb hr hlocks hQ hK hP hD hS dX2_store_35
theorem hdV_X0_add : yX0_add.cls = RX0 ∧ yX0_add.cls ≠ "java/lang/invoke/MethodHandle" ∧ yX0_add.cls ≠ "java/lang/invoke/VarHandle" ∧ (parseMethodDescriptor yX0_add.desc).map (fun d => d.parameters.length) = some 1 := by decide +kernel
abbrev rmX0_add : Room := { frames := 2, cells := 0, slots := 0, locals := 62 }
set_option maxHeartbeats 4000000 in
set_option maxRecDepth 100000 in
theorem k_X0_add (l : Launch) (D : va_G) (cI cJ cZ : ClassId) (sz : Nat) (aO : Nat) (aB : Nat) (aG : Nat) (aS : Nat) (aY : Nat) (oB : Nat → Int64) (oz : Int32) (sL : Nat → Int64) (ooB : Nat → Int64) (ooz : Int32) (h : fX0_add oB oz sL = some (ooB, ooz)) : Met l yX0_add wsX0_add rmX0_add (sh_Pw D (sh_ty cI cJ cZ) sz [(aO, .inr (0, [.ref aB, .int oz])), (aB, .inl (cJ, 140, .inr (.inl oB))), (aS, .inr (2, [.ref aG, .ref aY])), (aY, .inl (cJ, 10, .inr (.inl sL)))] [.ref aO, .ref aS]) (sh_Qv D (sh_ty cI cJ cZ) (va_A [(aO, .inr (0, [.ref aB, .int oz])), (aB, .inl (cJ, 140, .inr (.inl oB))), (aS, .inr (2, [.ref aG, .ref aY])), (aY, .inl (cJ, 10, .inr (.inl sL)))] sz) [(aO, .inr (0, [.ref aB, .int ooz])), (aB, .inl (cJ, 140, .inr (.inl ooB))), (aS, .inr (2, [.ref aG, .ref aY])), (aY, .inl (cJ, 10, .inr (.inl sL)))]) 0 0 (va_A [(aO, .inr (0, [.ref aB, .int oz])), (aB, .inl (cJ, 140, .inr (.inl oB))), (aS, .inr (2, [.ref aG, .ref aY])), (aY, .inl (cJ, 10, .inr (.inl sL)))] sz) := by
  refine Met.ofW (cc := cX0_add) (maxL := 2) (ret := none) (by decide) rfl ?_
  intro p e s m args below meth c s₁ hB hml hv
  obtain ⟨hargs, hsz, hP, hK, hD0⟩ := hv
  have hx := hB.exec
  have hb := hB.bytes
  have hr := hB.returns
  have hts := atoms_spec (ws := wsX0_add) hB.pre
  have hown : s.vm.findClass RX0 = some m.cls := findClass_of_methodNamed hB.named
  have hlocks := hB.notSynchronized
  have hfix : CallFix p m c cX0_add 2 s args wsX0_add RX0 := ⟨hx, hb, hml, hown, hts⟩
  have hinX0 : ∀ w ∈ wsX00, w ∈ wsX0_add := by decide +kernel
  have lk1 := hts (.fieldLink RX0 15 "ShadeTree$Doings" "size" "I") (by decide +kernel)
  have lk2 := hts (.fieldLink RX0 11 "ShadeTree$Doings" "before" "[J") (by decide +kernel)
  have lk3 := hts (.methodLink RX0 19 arraycopyName) (by decide +kernel)
  have lk4 := hts (.native arraycopyName) (by decide +kernel)
  have lk5 := hts (.static arraycopyName) (by decide +kernel)
  have lk6 := hts (.initialized "java/lang/System") (by decide +kernel)
  rw [show entryFrame m args 2 = entryFrame m ([.ref aO, .ref aS] : List Value).toArray 2 by rw [hargs], lg_entry_eq]
  have hl := lv_entry ([.ref aO, .ref aS]) (n := 2) (Nat.le_of_ble_eq_true rfl)
  generalize (lg_sl ([.ref aO, .ref aS]) ++ List.replicate (2 - (lg_sl ([.ref aO, .ref aS])).length) Slot.unset).toArray = ls at hl ⊢
  have hl : lv_has ls 2 [(0, .ref aO), (1, .ref aS)] := hl
  subst hsz
  have hD := hD0.self (sz := s.heap.size)
  generalize hAe : va_A [(aO, .inr (0, [.ref aB, .int oz])), (aB, .inl (cJ, 140, .inr (.inl oB))), (aS, .inr (2, [.ref aG, .ref aY])), (aY, .inl (cJ, 10, .inr (.inl sL)))] s.heap.size = Az at hD ⊢
  have hA : ∀ q : Nat, s.heap.size ≤ q → Az q := fun q h => by rw [← hAe]; exact Or.inr h
  have hS : va_S Az s.heap s.heap [] := va_S.rf
  generalize hQ : MQ below (sh_Qv D (sh_ty cI cJ cZ) Az [(aO, .inr (0, [.ref aB, .int ooz])), (aB, .inl (cJ, 140, .inr (.inl ooB))), (aS, .inr (2, [.ref aG, .ref aY])), (aY, .inl (cJ, 10, .inr (.inl sL)))]) args s 0 0 Az = Q
  unfold fX0_add at h
  refine lv_aload_n hx hb dX0_add_0 rfl (lv_at hl 1 rfl) ?_
  refine lv_ifnonnull (tgt := 5) hx hb dX0_add_1 (by decide) ?_
  refine lv_aload_n hx hb dX0_add_5 rfl (lv_at hl 0 rfl) ?_
  refine va_get (ci := 0) (v := .int oz) (C := RX0) (T := TX0) (N := 2) hx hb hts hinX0 hown hK hP 0 rfl rfl 1 (by decide) lk1 (fun _ h9 => h9) rfl dX0_add_6 ?_
  refine lv_bipush (v := 14) hx hb dX0_add_9 (by decide) ?_
  refine lv_icmp_lt (tgt := 42) hx hb dX0_add_11 (by decide) (fun g1 => ?_) (fun g1 => ?_)
  · rw [if_pos g1] at h
    refine lv_aload_n hx hb dX0_add_42 rfl (lv_at hl 1 rfl) ?_
    refine lv_aload_n hx hb dX0_add_43 rfl (lv_at hl 0 rfl) ?_
    refine va_get (ci := 0) (v := .ref aB) (C := RX0) (T := TX0) (N := 2) hx hb hts hinX0 hown hK hP 0 rfl rfl 0 (by decide) lk2 (fun _ h9 => h9) rfl dX0_add_44 ?_
    refine lv_aload_n hx hb dX0_add_47 rfl (lv_at hl 0 rfl) ?_
    refine va_get (ci := 0) (v := .int oz) (C := RX0) (T := TX0) (N := 2) hx hb hts hinX0 hown hK hP 0 rfl rfl 1 (by decide) lk1 (fun _ h9 => h9) rfl dX0_add_48 ?_
    refine lv_bipush (v := 10) hx hb dX0_add_51 (by decide) ?_
    refine lv_imul hx hb dX0_add_53 ?_
    obtain ⟨u2, hc3, h⟩ := sh_b1_e h
    refine sh_wVv (wn := [(aO, .inr (0, [.ref aB, .int oz])), (aB, .inl (cJ, 140, .inr (.inl u2))), (aS, .inr (2, [.ref aG, .ref aY])), (aY, .inl (cJ, 10, .inr (.inl sL)))]) (As := [.ref aB, .int (oz * 10)]) (rest := []) hfix (k_X2_store l D cI cJ cZ _ aG aS aY aB sL 140 oB (oz * 10) u2 hc3) (cwV 2 hts gX0_add_X2_store rfl rfl rfl hdV_X2_store ⟨Nat.le_of_ble_eq_true rfl, Nat.le_of_ble_eq_true rfl⟩) hP hK hD hS hA [2, 3, 1] [0] [0, 3, 1, 2] rfl rfl rfl rfl rfl rfl rfl 2 rfl rfl rfl hl.1 rfl (Nat.le_of_ble_eq_true rfl) dX0_add_54 ⟨Nat.zero_le _, Nat.zero_le _⟩ (fun H locs hP hD hS => ?_)
    refine lv_aload_n hx hb dX0_add_57 rfl (lv_at hl 0 rfl) ?_
    refine lv_dup hx hb dX0_add_58 rfl ?_
    refine va_get (ci := 0) (v := .int oz) (C := RX0) (T := TX0) (N := 2) hx hb hts hinX0 hown hK hP 0 rfl rfl 1 (by decide) lk1 (fun _ h9 => h9) rfl dX0_add_59 ?_
    refine lv_iconst (v := 1) hx hb dX0_add_62 (by decide) ?_
    refine lv_iadd hx hb dX0_add_63 ?_
    refine sh_put (wn := [(aO, .inr (0, [.ref aB, .int (oz + 1)])), (aB, .inl (cJ, 140, .inr (.inl u2))), (aS, .inr (2, [.ref aG, .ref aY])), (aY, .inl (cJ, 10, .inr (.inl sL)))]) (ci := 0) (v := .int (oz + 1)) (ty := .int) (C := RX0) (T := TX0) (N := 2) hx hb hts hinX0 tyX0 tyX0_ok nmX0 hown hK hP hD hS 0 rfl rfl 1 (by decide) lk1 (fun _ h9 => h9) rfl (by decide +kernel) rfl rfl (Nat.le_of_ble_eq_true rfl) rfl dX0_add_64 (fun H locs hP hD hS => ?_)
    cases h
    exact sh_rwv hx hb hr hlocks hQ hK hP hD hS dX0_add_67
  · rw [if_neg g1] at h
    refine lv_aload_n hx hb dX0_add_14 rfl (lv_at hl 0 rfl) ?_
    refine va_get (ci := 0) (v := .ref aB) (C := RX0) (T := TX0) (N := 2) hx hb hts hinX0 hown hK hP 0 rfl rfl 0 (by decide) lk2 (fun _ h9 => h9) rfl dX0_add_15 ?_
    refine lv_bipush (v := 10) hx hb dX0_add_18 (by decide) ?_
    refine lv_aload_n hx hb dX0_add_20 rfl (lv_at hl 0 rfl) ?_
    refine va_get (ci := 0) (v := .ref aB) (C := RX0) (T := TX0) (N := 2) hx hb hts hinX0 hown hK hP 0 rfl rfl 0 (by decide) lk2 (fun _ h9 => h9) rfl dX0_add_21 ?_
    refine lv_iconst (v := 0) hx hb dX0_add_24 (by decide) ?_
    refine lv_aload_n hx hb dX0_add_25 rfl (lv_at hl 0 rfl) ?_
    refine va_get (ci := 0) (v := .ref aB) (C := RX0) (T := TX0) (N := 2) hx hb hts hinX0 hown hK hP 0 rfl rfl 0 (by decide) lk2 (fun _ h9 => h9) rfl dX0_add_26 ?_
    refine va_alen (v := 140) hx hb hK hP 1 1 rfl rfl rfl dX0_add_29 ?_
    refine lv_bipush (v := 10) hx hb dX0_add_30 (by decide) ?_
    refine lv_isub hx hb dX0_add_32 ?_
    obtain ⟨f4, hcf4, h⟩ := sh_b1_e h
    refine sh_copyl (wn := [(aO, .inr (0, [.ref aB, .int oz])), (aB, .inl (cJ, 140, .inr (.inl f4))), (aS, .inr (2, [.ref aG, .ref aY])), (aY, .inl (cJ, 10, .inr (.inl sL)))]) hx hb (hml.trans hl.1.symm) hown lk3 lk4 lk5 lk6 hK hP hD hS 1 1 1 rfl rfl rfl (sh_cpy_e hcf4) rfl (Nat.le_of_ble_eq_true rfl) (by decide) dX0_add_33 (fun H locs hP hD hS => ?_)
    refine lv_aload_n hx hb dX0_add_36 rfl (lv_at hl 0 rfl) ?_
    refine lv_bipush (v := 13) hx hb dX0_add_37 (by decide) ?_
    refine sh_put (wn := [(aO, .inr (0, [.ref aB, .int 13])), (aB, .inl (cJ, 140, .inr (.inl f4))), (aS, .inr (2, [.ref aG, .ref aY])), (aY, .inl (cJ, 10, .inr (.inl sL)))]) (ci := 0) (v := .int 13) (ty := .int) (C := RX0) (T := TX0) (N := 2) hx hb hts hinX0 tyX0 tyX0_ok nmX0 hown hK hP hD hS 0 rfl rfl 1 (by decide) lk1 (fun _ h9 => h9) rfl (by decide +kernel) rfl rfl (Nat.le_of_ble_eq_true rfl) rfl dX0_add_39 (fun H locs hP hD hS => ?_)
    refine lv_aload_n hx hb dX0_add_42 rfl (lv_at hl 1 rfl) ?_
    refine lv_aload_n hx hb dX0_add_43 rfl (lv_at hl 0 rfl) ?_
    refine va_get (ci := 0) (v := .ref aB) (C := RX0) (T := TX0) (N := 2) hx hb hts hinX0 hown hK hP 0 rfl rfl 0 (by decide) lk2 (fun _ h9 => h9) rfl dX0_add_44 ?_
    refine lv_aload_n hx hb dX0_add_47 rfl (lv_at hl 0 rfl) ?_
    refine va_get (ci := 0) (v := .int 13) (C := RX0) (T := TX0) (N := 2) hx hb hts hinX0 hown hK hP 0 rfl rfl 1 (by decide) lk1 (fun _ h9 => h9) rfl dX0_add_48 ?_
    refine lv_bipush (v := 10) hx hb dX0_add_51 (by decide) ?_
    refine lv_imul hx hb dX0_add_53 ?_
    obtain ⟨u5, hc6, h⟩ := sh_b1_e h
    refine sh_wVv (wn := [(aO, .inr (0, [.ref aB, .int 13])), (aB, .inl (cJ, 140, .inr (.inl u5))), (aS, .inr (2, [.ref aG, .ref aY])), (aY, .inl (cJ, 10, .inr (.inl sL)))]) (As := [.ref aB, .int (13 * 10)]) (rest := []) hfix (k_X2_store l D cI cJ cZ _ aG aS aY aB sL 140 f4 (13 * 10) u5 hc6) (cwV 2 hts gX0_add_X2_store rfl rfl rfl hdV_X2_store ⟨Nat.le_of_ble_eq_true rfl, Nat.le_of_ble_eq_true rfl⟩) hP hK hD hS hA [2, 3, 1] [0] [0, 3, 1, 2] rfl rfl rfl rfl rfl rfl rfl 2 rfl rfl rfl hl.1 rfl (Nat.le_of_ble_eq_true rfl) dX0_add_54 ⟨Nat.zero_le _, Nat.zero_le _⟩ (fun H locs hP hD hS => ?_)
    refine lv_aload_n hx hb dX0_add_57 rfl (lv_at hl 0 rfl) ?_
    refine lv_dup hx hb dX0_add_58 rfl ?_
    refine va_get (ci := 0) (v := .int 13) (C := RX0) (T := TX0) (N := 2) hx hb hts hinX0 hown hK hP 0 rfl rfl 1 (by decide) lk1 (fun _ h9 => h9) rfl dX0_add_59 ?_
    refine lv_iconst (v := 1) hx hb dX0_add_62 (by decide) ?_
    refine lv_iadd hx hb dX0_add_63 ?_
    refine sh_put (wn := [(aO, .inr (0, [.ref aB, .int (13 + 1)])), (aB, .inl (cJ, 140, .inr (.inl u5))), (aS, .inr (2, [.ref aG, .ref aY])), (aY, .inl (cJ, 10, .inr (.inl sL)))]) (ci := 0) (v := .int (13 + 1)) (ty := .int) (C := RX0) (T := TX0) (N := 2) hx hb hts hinX0 tyX0 tyX0_ok nmX0 hown hK hP hD hS 0 rfl rfl 1 (by decide) lk1 (fun _ h9 => h9) rfl (by decide +kernel) rfl rfl (Nat.le_of_ble_eq_true rfl) rfl dX0_add_64 (fun H locs hP hD hS => ?_)
    cases h
    exact sh_rwv hx hb hr hlocks hQ hK hP hD hS dX0_add_67
theorem hdV_X2_load : yX2_load.cls = RX2 ∧ yX2_load.cls ≠ "java/lang/invoke/MethodHandle" ∧ yX2_load.cls ≠ "java/lang/invoke/VarHandle" ∧ (parseMethodDescriptor yX2_load.desc).map (fun d => d.parameters.length) = some 2 := by decide +kernel
abbrev rmX2_load : Room := { frames := 1, cells := 0, slots := 0, locals := 40 }
set_option maxHeartbeats 4000000 in
set_option maxRecDepth 100000 in
theorem k_X2_load (l : Launch) (D : va_G) (cI cJ cZ : ClassId) (sz : Nat) (aG : Nat) (aS : Nat) (aY : Nat) (aR : Nat) (sL : Nat → Int64) (rn : Nat) (rL : Nat → Int64) (x2 : Int32) (osL : Nat → Int64) (h : fX2_load sL rn rL x2 = some osL) : Met l yX2_load wsX2_load rmX2_load (sh_Pw D (sh_ty cI cJ cZ) sz [(aS, .inr (2, [.ref aG, .ref aY])), (aY, .inl (cJ, 10, .inr (.inl sL))), (aR, .inl (cJ, rn, .inr (.inl rL)))] [.ref aS, .ref aR, .int x2]) (sh_Qv D (sh_ty cI cJ cZ) (va_A [(aS, .inr (2, [.ref aG, .ref aY])), (aY, .inl (cJ, 10, .inr (.inl sL))), (aR, .inl (cJ, rn, .inr (.inl rL)))] sz) [(aS, .inr (2, [.ref aG, .ref aY])), (aY, .inl (cJ, 10, .inr (.inl osL))), (aR, .inl (cJ, rn, .inr (.inl rL)))]) 0 0 (va_A [(aS, .inr (2, [.ref aG, .ref aY])), (aY, .inl (cJ, 10, .inr (.inl sL))), (aR, .inl (cJ, rn, .inr (.inl rL)))] sz) := by
  refine Met.ofW (cc := cX2_load) (maxL := 3) (ret := none) (by decide) rfl ?_
  intro p e s m args below meth c s₁ hB hml hv
  obtain ⟨hargs, hsz, hP, hK, hD0⟩ := hv
  have hx := hB.exec
  have hb := hB.bytes
  have hr := hB.returns
  have hts := atoms_spec (ws := wsX2_load) hB.pre
  have hown : s.vm.findClass RX2 = some m.cls := findClass_of_methodNamed hB.named
  have hlocks := hB.notSynchronized
  have hfix : CallFix p m c cX2_load 3 s args wsX2_load RX2 := ⟨hx, hb, hml, hown, hts⟩
  have hinX2 : ∀ w ∈ wsX20, w ∈ wsX2_load := by decide +kernel
  have lk1 := hts (.fieldLink RX2 9 "ShadeTree$Shades" "layers" "[J") (by decide +kernel)
  have lk2 := hts (.methodLink RX2 70 arraycopyName) (by decide +kernel)
  have lk3 := hts (.native arraycopyName) (by decide +kernel)
  have lk4 := hts (.static arraycopyName) (by decide +kernel)
  have lk5 := hts (.initialized "java/lang/System") (by decide +kernel)
  rw [show entryFrame m args 3 = entryFrame m ([.ref aS, .ref aR, .int x2] : List Value).toArray 3 by rw [hargs], lg_entry_eq]
  have hl := lv_entry ([.ref aS, .ref aR, .int x2]) (n := 3) (Nat.le_of_ble_eq_true rfl)
  generalize (lg_sl ([.ref aS, .ref aR, .int x2]) ++ List.replicate (3 - (lg_sl ([.ref aS, .ref aR, .int x2])).length) Slot.unset).toArray = ls at hl ⊢
  have hl : lv_has ls 3 [(0, .ref aS), (1, .ref aR), (2, .int x2)] := hl
  subst hsz
  have hD := hD0.self (sz := s.heap.size)
  generalize hAe : va_A [(aS, .inr (2, [.ref aG, .ref aY])), (aY, .inl (cJ, 10, .inr (.inl sL))), (aR, .inl (cJ, rn, .inr (.inl rL)))] s.heap.size = Az at hD ⊢
  have hA : ∀ q : Nat, s.heap.size ≤ q → Az q := fun q h => by rw [← hAe]; exact Or.inr h
  have hS : va_S Az s.heap s.heap [] := va_S.rf
  generalize hQ : MQ below (sh_Qv D (sh_ty cI cJ cZ) Az [(aS, .inr (2, [.ref aG, .ref aY])), (aY, .inl (cJ, 10, .inr (.inl osL))), (aR, .inl (cJ, rn, .inr (.inl rL)))]) args s 0 0 Az = Q
  unfold fX2_load at h
  refine lv_aload_n hx hb dX2_load_0 rfl (lv_at hl 1 rfl) ?_
  refine lv_ifnull hx hb dX2_load_1 ?_
  refine lv_iload_n hx hb dX2_load_4 rfl (lv_at hl 2 rfl) ?_
  refine lv_if_lt (tgt := 35) hx hb dX2_load_5 (by decide) (fun g1 => ?_) (fun g1 => ?_)
  · rw [if_pos g1] at h
    cases h
    exact sh_rwv hx hb hr hlocks hQ hK hP hD hS dX2_load_35
  · rw [if_neg g1] at h
    refine lv_iload_n hx hb dX2_load_8 rfl (lv_at hl 2 rfl) ?_
    refine lv_aload_n hx hb dX2_load_9 rfl (lv_at hl 1 rfl) ?_
    refine va_alen (v := (Int32.ofNat rn)) hx hb hK hP 2 1 rfl rfl rfl dX2_load_10 ?_
    refine lv_aload_n hx hb dX2_load_11 rfl (lv_at hl 0 rfl) ?_
    refine va_get (ci := 2) (v := .ref aY) (C := RX2) (T := TX2) (N := 2) hx hb hts hinX2 hown hK hP 0 rfl rfl 1 (by decide) lk1 (fun _ h9 => h9) rfl dX2_load_12 ?_
    refine va_alen (v := 10) hx hb hK hP 1 1 rfl rfl rfl dX2_load_15 ?_
    refine lv_isub hx hb dX2_load_16 ?_
    refine lv_icmp_gt (tgt := 35) hx hb dX2_load_17 (by decide) (fun g2 => ?_) (fun g2 => ?_)
    · rw [if_pos g2] at h
      cases h
      exact sh_rwv hx hb hr hlocks hQ hK hP hD hS dX2_load_35
    · rw [if_neg g2] at h
      refine lv_aload_n hx hb dX2_load_20 rfl (lv_at hl 1 rfl) ?_
      refine lv_iload_n hx hb dX2_load_21 rfl (lv_at hl 2 rfl) ?_
      refine lv_aload_n hx hb dX2_load_22 rfl (lv_at hl 0 rfl) ?_
      refine va_get (ci := 2) (v := .ref aY) (C := RX2) (T := TX2) (N := 2) hx hb hts hinX2 hown hK hP 0 rfl rfl 1 (by decide) lk1 (fun _ h9 => h9) rfl dX2_load_23 ?_
      refine lv_iconst (v := 0) hx hb dX2_load_26 (by decide) ?_
      refine lv_aload_n hx hb dX2_load_27 rfl (lv_at hl 0 rfl) ?_
      refine va_get (ci := 2) (v := .ref aY) (C := RX2) (T := TX2) (N := 2) hx hb hts hinX2 hown hK hP 0 rfl rfl 1 (by decide) lk1 (fun _ h9 => h9) rfl dX2_load_28 ?_
      refine va_alen (v := 10) hx hb hK hP 1 1 rfl rfl rfl dX2_load_31 ?_
      obtain ⟨f3, hcf3, h⟩ := sh_b1_e h
      refine sh_copyl (wn := [(aS, .inr (2, [.ref aG, .ref aY])), (aY, .inl (cJ, 10, .inr (.inl f3))), (aR, .inl (cJ, rn, .inr (.inl rL)))]) hx hb (hml.trans hl.1.symm) hown lk2 lk3 lk4 lk5 hK hP hD hS 2 1 1 rfl rfl rfl (sh_cpy_e hcf3) rfl (Nat.le_of_ble_eq_true rfl) (by decide) dX2_load_32 (fun H locs hP hD hS => ?_)
      cases h
      exact sh_rwv hx hb hr hlocks hQ hK hP hD hS dX2_load_35
theorem hdV_X0_takeBack : yX0_takeBack.cls = RX0 ∧ yX0_takeBack.cls ≠ "java/lang/invoke/MethodHandle" ∧ yX0_takeBack.cls ≠ "java/lang/invoke/VarHandle" ∧ (parseMethodDescriptor yX0_takeBack.desc).map (fun d => d.parameters.length) = some 1 := by decide +kernel
abbrev rmX0_takeBack : Room := { frames := 2, cells := 0, slots := 0, locals := 62 }
set_option maxHeartbeats 4000000 in
set_option maxRecDepth 100000 in
theorem k_X0_takeBack (l : Launch) (D : va_G) (cI cJ cZ : ClassId) (sz : Nat) (aO : Nat) (aB : Nat) (aG : Nat) (aS : Nat) (aY : Nat) (oB : Nat → Int64) (oz : Int32) (sL : Nat → Int64) (o : Int32) (ooz : Int32) (osL : Nat → Int64) (h : fX0_takeBack oB oz sL = some (o, ooz, osL)) : Met l yX0_takeBack wsX0_takeBack rmX0_takeBack (sh_Pw D (sh_ty cI cJ cZ) sz [(aO, .inr (0, [.ref aB, .int oz])), (aB, .inl (cJ, 140, .inr (.inl oB))), (aS, .inr (2, [.ref aG, .ref aY])), (aY, .inl (cJ, 10, .inr (.inl sL)))] [.ref aO, .ref aS]) (sh_Qi D (sh_ty cI cJ cZ) (va_A [(aO, .inr (0, [.ref aB, .int oz])), (aB, .inl (cJ, 140, .inr (.inl oB))), (aS, .inr (2, [.ref aG, .ref aY])), (aY, .inl (cJ, 10, .inr (.inl sL)))] sz) [(aO, .inr (0, [.ref aB, .int ooz])), (aB, .inl (cJ, 140, .inr (.inl oB))), (aS, .inr (2, [.ref aG, .ref aY])), (aY, .inl (cJ, 10, .inr (.inl osL)))] o) 0 0 (va_A [(aO, .inr (0, [.ref aB, .int oz])), (aB, .inl (cJ, 140, .inr (.inl oB))), (aS, .inr (2, [.ref aG, .ref aY])), (aY, .inl (cJ, 10, .inr (.inl sL)))] sz) := by
  refine Met.ofW (cc := cX0_takeBack) (maxL := 2) (ret := (some .boolean)) (by decide) rfl ?_
  intro p e s m args below meth c s₁ hB hml hv
  obtain ⟨hargs, hsz, hP, hK, hD0⟩ := hv
  have hx := hB.exec
  have hb := hB.bytes
  have hr := hB.returns
  have hts := atoms_spec (ws := wsX0_takeBack) hB.pre
  have hown : s.vm.findClass RX0 = some m.cls := findClass_of_methodNamed hB.named
  have hlocks := hB.notSynchronized
  have hfix : CallFix p m c cX0_takeBack 2 s args wsX0_takeBack RX0 := ⟨hx, hb, hml, hown, hts⟩
  have hinX0 : ∀ w ∈ wsX00, w ∈ wsX0_takeBack := by decide +kernel
  have lk1 := hts (.fieldLink RX0 15 "ShadeTree$Doings" "size" "I") (by decide +kernel)
  have lk2 := hts (.fieldLink RX0 11 "ShadeTree$Doings" "before" "[J") (by decide +kernel)
  rw [show entryFrame m args 2 = entryFrame m ([.ref aO, .ref aS] : List Value).toArray 2 by rw [hargs], lg_entry_eq]
  have hl := lv_entry ([.ref aO, .ref aS]) (n := 2) (Nat.le_of_ble_eq_true rfl)
  generalize (lg_sl ([.ref aO, .ref aS]) ++ List.replicate (2 - (lg_sl ([.ref aO, .ref aS])).length) Slot.unset).toArray = ls at hl ⊢
  have hl : lv_has ls 2 [(0, .ref aO), (1, .ref aS)] := hl
  subst hsz
  have hD := hD0.self (sz := s.heap.size)
  generalize hAe : va_A [(aO, .inr (0, [.ref aB, .int oz])), (aB, .inl (cJ, 140, .inr (.inl oB))), (aS, .inr (2, [.ref aG, .ref aY])), (aY, .inl (cJ, 10, .inr (.inl sL)))] s.heap.size = Az at hD ⊢
  have hA : ∀ q : Nat, s.heap.size ≤ q → Az q := fun q h => by rw [← hAe]; exact Or.inr h
  have hS : va_S Az s.heap s.heap [] := va_S.rf
  generalize hQ : MQ below (sh_Qi D (sh_ty cI cJ cZ) Az [(aO, .inr (0, [.ref aB, .int ooz])), (aB, .inl (cJ, 140, .inr (.inl oB))), (aS, .inr (2, [.ref aG, .ref aY])), (aY, .inl (cJ, 10, .inr (.inl osL)))] o) args s 0 0 Az = Q
  unfold fX0_takeBack at h
  refine lv_aload_n hx hb dX0_takeBack_0 rfl (lv_at hl 1 rfl) ?_
  refine lv_ifnull hx hb dX0_takeBack_1 ?_
  refine lv_aload_n hx hb dX0_takeBack_4 rfl (lv_at hl 0 rfl) ?_
  refine va_get (ci := 0) (v := .int oz) (C := RX0) (T := TX0) (N := 2) hx hb hts hinX0 hown hK hP 0 rfl rfl 1 (by decide) lk1 (fun _ h9 => h9) rfl dX0_takeBack_5 ?_
  refine lv_iconst (v := 1) hx hb dX0_takeBack_8 (by decide) ?_
  refine lv_icmp_ge (tgt := 14) hx hb dX0_takeBack_9 (by decide) (fun g1 => ?_) (fun g1 => ?_)
  · rw [if_pos g1] at h
    refine lv_aload_n hx hb dX0_takeBack_14 rfl (lv_at hl 0 rfl) ?_
    refine lv_dup hx hb dX0_takeBack_15 rfl ?_
    refine va_get (ci := 0) (v := .int oz) (C := RX0) (T := TX0) (N := 2) hx hb hts hinX0 hown hK hP 0 rfl rfl 1 (by decide) lk1 (fun _ h9 => h9) rfl dX0_takeBack_16 ?_
    refine lv_iconst (v := 1) hx hb dX0_takeBack_19 (by decide) ?_
    refine lv_isub hx hb dX0_takeBack_20 ?_
    refine sh_put (wn := [(aO, .inr (0, [.ref aB, .int (oz - 1)])), (aB, .inl (cJ, 140, .inr (.inl oB))), (aS, .inr (2, [.ref aG, .ref aY])), (aY, .inl (cJ, 10, .inr (.inl sL)))]) (ci := 0) (v := .int (oz - 1)) (ty := .int) (C := RX0) (T := TX0) (N := 2) hx hb hts hinX0 tyX0 tyX0_ok nmX0 hown hK hP hD hS 0 rfl rfl 1 (by decide) lk1 (fun _ h9 => h9) rfl (by decide +kernel) rfl rfl (Nat.le_of_ble_eq_true rfl) rfl dX0_takeBack_21 (fun H locs hP hD hS => ?_)
    refine lv_aload_n hx hb dX0_takeBack_24 rfl (lv_at hl 1 rfl) ?_
    refine lv_aload_n hx hb dX0_takeBack_25 rfl (lv_at hl 0 rfl) ?_
    refine va_get (ci := 0) (v := .ref aB) (C := RX0) (T := TX0) (N := 2) hx hb hts hinX0 hown hK hP 0 rfl rfl 0 (by decide) lk2 (fun _ h9 => h9) rfl dX0_takeBack_26 ?_
    refine lv_aload_n hx hb dX0_takeBack_29 rfl (lv_at hl 0 rfl) ?_
    refine va_get (ci := 0) (v := .int (oz - 1)) (C := RX0) (T := TX0) (N := 2) hx hb hts hinX0 hown hK hP 0 rfl rfl 1 (by decide) lk1 (fun _ h9 => h9) rfl dX0_takeBack_30 ?_
    refine lv_bipush (v := 10) hx hb dX0_takeBack_33 (by decide) ?_
    refine lv_imul hx hb dX0_takeBack_35 ?_
    obtain ⟨u2, hc3, h⟩ := sh_b1_e h
    refine sh_wVv (wn := [(aO, .inr (0, [.ref aB, .int (oz - 1)])), (aB, .inl (cJ, 140, .inr (.inl oB))), (aS, .inr (2, [.ref aG, .ref aY])), (aY, .inl (cJ, 10, .inr (.inl u2)))]) (As := [.ref aB, .int ((oz - 1) * 10)]) (rest := []) hfix (k_X2_load l D cI cJ cZ _ aG aS aY aB sL 140 oB ((oz - 1) * 10) u2 hc3) (cwV 2 hts gX0_takeBack_X2_load rfl rfl rfl hdV_X2_load ⟨Nat.le_of_ble_eq_true rfl, Nat.le_of_ble_eq_true rfl⟩) hP hK hD hS hA [2, 3, 1] [0] [0, 3, 1, 2] rfl rfl rfl rfl rfl rfl rfl 2 rfl rfl rfl hl.1 rfl (Nat.le_of_ble_eq_true rfl) dX0_takeBack_36 ⟨Nat.zero_le _, Nat.zero_le _⟩ (fun H locs hP hD hS => ?_)
    refine lv_iconst (v := 1) hx hb dX0_takeBack_39 (by decide) ?_
    cases h
    exact sh_rwz hx hb hr hlocks hQ rfl hK hP hD hS dX0_takeBack_40
  · rw [if_neg g1] at h
    refine lv_iconst (v := 0) hx hb dX0_takeBack_12 (by decide) ?_
    cases h
    exact sh_rwz hx hb hr hlocks hQ rfl hK hP hD hS dX0_takeBack_13
theorem hdV_X1_lay : yX1_lay.cls = RX1 ∧ yX1_lay.cls ≠ "java/lang/invoke/MethodHandle" ∧ yX1_lay.cls ≠ "java/lang/invoke/VarHandle" ∧ (parseMethodDescriptor yX1_lay.desc).map (fun d => d.parameters.length) = some 3 := by decide +kernel
abbrev rmX1_lay : Room := { frames := 0, cells := 0, slots := 0, locals := 0 }
set_option maxHeartbeats 4000000 in
set_option maxRecDepth 100000 in
theorem k_X1_lay (l : Launch) (D : va_G) (cI cJ cZ : ClassId) (sz : Nat) (aG : Nat) (gw : Int32) (gd : Int32) (gh : Int32) (ga : Int64) (gl : Int64) (gr : Int64) (x1 : Int32) (x2 : Int32) (x3 : Int32) (ogw : Int32) (ogd : Int32) (ogh : Int32) (oga : Int64) (ogl : Int64) (ogr : Int64) (h : fX1_lay x1 x2 x3 = some (ogw, ogd, ogh, oga, ogl, ogr)) : Met l yX1_lay wsX1_lay rmX1_lay (sh_Pw D (sh_ty cI cJ cZ) sz [(aG, .inr (1, [.int gw, .int gd, .int gh, .long ga, .long gl, .long gr]))] [.ref aG, .int x1, .int x2, .int x3]) (sh_Qv D (sh_ty cI cJ cZ) (va_A [(aG, .inr (1, [.int gw, .int gd, .int gh, .long ga, .long gl, .long gr]))] sz) [(aG, .inr (1, [.int ogw, .int ogd, .int ogh, .long oga, .long ogl, .long ogr]))]) 0 0 (va_A [(aG, .inr (1, [.int gw, .int gd, .int gh, .long ga, .long gl, .long gr]))] sz) := by
  refine Met.ofW (cc := cX1_lay) (maxL := 5) (ret := none) (by decide) rfl ?_
  intro p e s m args below meth c s₁ hB hml hv
  obtain ⟨hargs, hsz, hP, hK, hD0⟩ := hv
  have hx := hB.exec
  have hb := hB.bytes
  have hr := hB.returns
  have hts := atoms_spec (ws := wsX1_lay) hB.pre
  have hown : s.vm.findClass RX1 = some m.cls := findClass_of_methodNamed hB.named
  have hlocks := hB.notSynchronized
  have hfix : CallFix p m c cX1_lay 5 s args wsX1_lay RX1 := ⟨hx, hb, hml, hown, hts⟩
  have hinX1 : ∀ w ∈ wsX10, w ∈ wsX1_lay := by decide +kernel
  have lk1 := hts (.fieldLink RX1 15 "ShadeTree$Grid" "way" "I") (by decide +kernel)
  have lk2 := hts (.fieldLink RX1 19 "ShadeTree$Grid" "wide" "I") (by decide +kernel)
  have lk3 := hts (.fieldLink RX1 22 "ShadeTree$Grid" "high" "I") (by decide +kernel)
  have lk4 := hts (.fieldLink RX1 25 "ShadeTree$Grid" "all" "J") (by decide +kernel)
  have lk5 := hts (.fieldLink RX1 29 "ShadeTree$Grid" "leftmost" "J") (by decide +kernel)
  have lk6 := hts (.fieldLink RX1 32 "ShadeTree$Grid" "rightmost" "J") (by decide +kernel)
  rw [show entryFrame m args 5 = entryFrame m ([.ref aG, .int x1, .int x2, .int x3] : List Value).toArray 5 by rw [hargs], lg_entry_eq]
  have hl := lv_entry ([.ref aG, .int x1, .int x2, .int x3]) (n := 5) (Nat.le_of_ble_eq_true rfl)
  generalize (lg_sl ([.ref aG, .int x1, .int x2, .int x3]) ++ List.replicate (5 - (lg_sl ([.ref aG, .int x1, .int x2, .int x3])).length) Slot.unset).toArray = ls at hl ⊢
  have hl : lv_has ls 5 [(0, .ref aG), (1, .int x1), (2, .int x2), (3, .int x3)] := hl
  subst hsz
  have hD := hD0.self (sz := s.heap.size)
  generalize hAe : va_A [(aG, .inr (1, [.int gw, .int gd, .int gh, .long ga, .long gl, .long gr]))] s.heap.size = Az at hD ⊢
  have hA : ∀ q : Nat, s.heap.size ≤ q → Az q := fun q h => by rw [← hAe]; exact Or.inr h
  have hS : va_S Az s.heap s.heap [] := va_S.rf
  generalize hQ : MQ below (sh_Qv D (sh_ty cI cJ cZ) Az [(aG, .inr (1, [.int ogw, .int ogd, .int ogh, .long oga, .long ogl, .long ogr]))]) args s 0 0 Az = Q
  unfold fX1_lay at h
  refine lv_aload_n hx hb dX1_lay_0 rfl (lv_at hl 0 rfl) ?_
  refine lv_iload_n hx hb dX1_lay_1 rfl (lv_at hl 1 rfl) ?_
  refine sh_put (wn := [(aG, .inr (1, [.int x1, .int gd, .int gh, .long ga, .long gl, .long gr]))]) (ci := 1) (v := .int x1) (ty := .int) (C := RX1) (T := TX1) (N := 6) hx hb hts hinX1 tyX1 tyX1_ok nmX1 hown hK hP hD hS 0 rfl rfl 0 (by decide) lk1 (fun _ h9 => h9) rfl (by decide +kernel) rfl rfl (Nat.le_of_ble_eq_true rfl) rfl dX1_lay_2 (fun H locs hP hD hS => ?_)
  refine lv_aload_n hx hb dX1_lay_5 rfl (lv_at hl 0 rfl) ?_
  refine lv_iload_n hx hb dX1_lay_6 rfl (lv_at hl 2 rfl) ?_
  refine sh_put (wn := [(aG, .inr (1, [.int x1, .int x2, .int gh, .long ga, .long gl, .long gr]))]) (ci := 1) (v := .int x2) (ty := .int) (C := RX1) (T := TX1) (N := 6) hx hb hts hinX1 tyX1 tyX1_ok nmX1 hown hK hP hD hS 0 rfl rfl 1 (by decide) lk2 (fun _ h9 => h9) rfl (by decide +kernel) rfl rfl (Nat.le_of_ble_eq_true rfl) rfl dX1_lay_7 (fun H locs hP hD hS => ?_)
  refine lv_aload_n hx hb dX1_lay_10 rfl (lv_at hl 0 rfl) ?_
  refine lv_iload_n hx hb dX1_lay_11 rfl (lv_at hl 3 rfl) ?_
  refine sh_put (wn := [(aG, .inr (1, [.int x1, .int x2, .int x3, .long ga, .long gl, .long gr]))]) (ci := 1) (v := .int x3) (ty := .int) (C := RX1) (T := TX1) (N := 6) hx hb hts hinX1 tyX1 tyX1_ok nmX1 hown hK hP hD hS 0 rfl rfl 2 (by decide) lk3 (fun _ h9 => h9) rfl (by decide +kernel) rfl rfl (Nat.le_of_ble_eq_true rfl) rfl dX1_lay_12 (fun H locs hP hD hS => ?_)
  refine lv_aload_n hx hb dX1_lay_15 rfl (lv_at hl 0 rfl) ?_
  refine lv_lconst (v := 1) hx hb dX1_lay_16 (by decide) ?_
  refine lv_aload_n hx hb dX1_lay_17 rfl (lv_at hl 0 rfl) ?_
  refine va_get (ci := 1) (v := .int x2) (C := RX1) (T := TX1) (N := 6) hx hb hts hinX1 hown hK hP 0 rfl rfl 1 (by decide) lk2 (fun _ h9 => h9) rfl dX1_lay_18 ?_
  refine lv_aload_n hx hb dX1_lay_21 rfl (lv_at hl 0 rfl) ?_
  refine va_get (ci := 1) (v := .int x3) (C := RX1) (T := TX1) (N := 6) hx hb hts hinX1 hown hK hP 0 rfl rfl 2 (by decide) lk3 (fun _ h9 => h9) rfl dX1_lay_22 ?_
  refine lv_imul hx hb dX1_lay_25 ?_
  refine lv_lshl (v := (sh_lsl 1 (x2 * x3))) hx hb dX1_lay_26 rfl ?_
  refine lv_lconst (v := 1) hx hb dX1_lay_27 (by decide) ?_
  refine lv_lsub hx hb dX1_lay_28 ?_
  refine sh_put (wn := [(aG, .inr (1, [.int x1, .int x2, .int x3, .long ((sh_lsl 1 (x2 * x3)) - 1), .long gl, .long gr]))]) (ci := 1) (v := .long ((sh_lsl 1 (x2 * x3)) - 1)) (ty := .long) (C := RX1) (T := TX1) (N := 6) hx hb hts hinX1 tyX1 tyX1_ok nmX1 hown hK hP hD hS 0 rfl rfl 3 (by decide) lk4 (fun _ h9 => h9) rfl (by decide +kernel) rfl rfl (Nat.le_of_ble_eq_true rfl) rfl dX1_lay_29 (fun H locs hP hD hS => ?_)
  refine lv_aload_n hx hb dX1_lay_32 rfl (lv_at hl 0 rfl) ?_
  refine lv_lconst (v := 0) hx hb dX1_lay_33 (by decide) ?_
  refine sh_put (wn := [(aG, .inr (1, [.int x1, .int x2, .int x3, .long ((sh_lsl 1 (x2 * x3)) - 1), .long 0, .long gr]))]) (ci := 1) (v := .long 0) (ty := .long) (C := RX1) (T := TX1) (N := 6) hx hb hts hinX1 tyX1 tyX1_ok nmX1 hown hK hP hD hS 0 rfl rfl 4 (by decide) lk5 (fun _ h9 => h9) rfl (by decide +kernel) rfl rfl (Nat.le_of_ble_eq_true rfl) rfl dX1_lay_34 (fun H locs hP hD hS => ?_)
  refine lv_iconst (v := 0) hx hb dX1_lay_37 (by decide) ?_
  refine lv_istore (lv' := [(4, .int 0), (0, .ref aG), (1, .int x1), (2, .int x2), (3, .int x3)]) hx hb dX1_lay_38 hl (by decide) rfl (fun ls hl => ?_)
  have LP2 : ∀ (n : Nat) (x4 : Int32) (gl : Int64) (ogl : (Int64)) (H : Heap) (locs : List Loc) (ls : Array Slot), fX1_lay_L40 n x4 x2 x3 gl = some ogl → lv_has ls 5 [(0, .ref aG), (4, .int x4)] → va_P D vwCl [(aG, .inr (1, [.int x1, .int x2, .int x3, .long ((sh_lsl 1 (x2 * x3)) - 1), .long gl, .long gr]))] H → va_D Az [(aG, .inr (1, [.int x1, .int x2, .int x3, .long ((sh_lsl 1 (x2 * x3)) - 1), .long gl, .long gr]))] → va_S Az s.heap H locs → (∀ (H : Heap) (locs : List Loc) (ls : Array Slot), lv_has ls 5 [(0, .ref aG)] → va_P D vwCl [(aG, .inr (1, [.int x1, .int x2, .int x3, .long ((sh_lsl 1 (x2 * x3)) - 1), .long ogl, .long gr]))] H → va_D Az [(aG, .inr (1, [.int x1, .int x2, .int x3, .long ((sh_lsl 1 (x2 * x3)) - 1), .long ogl, .long gr]))] → va_S Az s.heap H locs → W p l e (headSpec wsX1_lay rmX1_lay).room s m args below meth c H locs 0 0 Q (F0 m 73 ls [])) → W p l e (headSpec wsX1_lay rmX1_lay).room s m args below meth c H locs 0 0 Q (F0 m 40 ls []) := by
    intro n
    induction n with
    | zero =>
      intro x4 gl ogl H locs ls h hl hP hD hS hk
      exact nomatch ((fX1_lay_L40_z x4 x2 x3 gl).symm.trans h)
    | succ n ih =>
      intro x4 gl ogl H locs ls h hl hP hD hS hk
      rw [fX1_lay_L40_s] at h
      refine lv_iload hx hb dX1_lay_40 (lv_at hl 1 rfl) ?_
      refine lv_aload_n hx hb dX1_lay_42 rfl (lv_at hl 0 rfl) ?_
      refine va_get (ci := 1) (v := .int x3) (C := RX1) (T := TX1) (N := 6) hx hb hts hinX1 hown hK hP 0 rfl rfl 2 (by decide) lk3 (fun _ h9 => h9) rfl dX1_lay_43 ?_
      refine lv_icmp_ge (tgt := 73) hx hb dX1_lay_46 (by decide) (fun g1 => ?_) (fun g1 => ?_)
      · rw [if_pos g1] at h
        cases h
        exact hk _ _ ls (lv_sub hl [0] rfl) hP hD hS
      · rw [if_neg g1] at h
        refine lv_aload_n hx hb dX1_lay_49 rfl (lv_at hl 0 rfl) ?_
        refine lv_dup hx hb dX1_lay_50 rfl ?_
        refine va_get (ci := 1) (v := .long gl) (C := RX1) (T := TX1) (N := 6) hx hb hts hinX1 hown hK hP 0 rfl rfl 4 (by decide) lk5 (fun _ h9 => h9) rfl dX1_lay_51 ?_
        refine lv_lconst (v := 1) hx hb dX1_lay_54 (by decide) ?_
        refine lv_iload hx hb dX1_lay_55 (lv_at hl 1 rfl) ?_
        refine lv_aload_n hx hb dX1_lay_57 rfl (lv_at hl 0 rfl) ?_
        refine va_get (ci := 1) (v := .int x2) (C := RX1) (T := TX1) (N := 6) hx hb hts hinX1 hown hK hP 0 rfl rfl 1 (by decide) lk2 (fun _ h9 => h9) rfl dX1_lay_58 ?_
        refine lv_imul hx hb dX1_lay_61 ?_
        refine lv_lshl (v := (sh_lsl 1 (x4 * x2))) hx hb dX1_lay_62 rfl ?_
        refine lv_lor hx hb dX1_lay_63 ?_
        refine sh_put (wn := [(aG, .inr (1, [.int x1, .int x2, .int x3, .long ((sh_lsl 1 (x2 * x3)) - 1), .long (gl ||| (sh_lsl 1 (x4 * x2))), .long gr]))]) (ci := 1) (v := .long (gl ||| (sh_lsl 1 (x4 * x2)))) (ty := .long) (C := RX1) (T := TX1) (N := 6) hx hb hts hinX1 tyX1 tyX1_ok nmX1 hown hK hP hD hS 0 rfl rfl 4 (by decide) lk5 (fun _ h9 => h9) rfl (by decide +kernel) rfl rfl (Nat.le_of_ble_eq_true rfl) rfl dX1_lay_64 (fun H locs hP hD hS => ?_)
        refine lv_iinc (v := (x4 + 1)) (lv' := [(4, .int (x4 + 1)), (0, .ref aG)]) hx hb dX1_lay_67 hl (k := 1) rfl rfl (by decide) rfl (fun ls hl => ?_)
        refine lv_goto (tgt := 40) hx hb dX1_lay_70 (by decide) ?_
        exact ih (x4 + 1) (gl ||| (sh_lsl 1 (x4 * x2))) ogl _ _ ls h (lv_sub hl [1, 0] rfl) hP hD hS hk
  obtain ⟨w3, hc4, h⟩ := sh_b1_e h
  refine LP2 sh_fu 0 0 w3 _ _ ls hc4 (lv_sub hl [1, 0] rfl) hP hD hS (fun H locs ls hl hP hD hS => ?_)
  refine lv_aload_n hx hb dX1_lay_73 rfl (lv_at hl 0 rfl) ?_
  refine lv_aload_n hx hb dX1_lay_74 rfl (lv_at hl 0 rfl) ?_
  refine va_get (ci := 1) (v := .long w3) (C := RX1) (T := TX1) (N := 6) hx hb hts hinX1 hown hK hP 0 rfl rfl 4 (by decide) lk5 (fun _ h9 => h9) rfl dX1_lay_75 ?_
  refine lv_aload_n hx hb dX1_lay_78 rfl (lv_at hl 0 rfl) ?_
  refine va_get (ci := 1) (v := .int x2) (C := RX1) (T := TX1) (N := 6) hx hb hts hinX1 hown hK hP 0 rfl rfl 1 (by decide) lk2 (fun _ h9 => h9) rfl dX1_lay_79 ?_
  refine lv_iconst (v := 1) hx hb dX1_lay_82 (by decide) ?_
  refine lv_isub hx hb dX1_lay_83 ?_
  refine lv_lshl (v := (sh_lsl w3 (x2 - 1))) hx hb dX1_lay_84 rfl ?_
  refine sh_put (wn := [(aG, .inr (1, [.int x1, .int x2, .int x3, .long ((sh_lsl 1 (x2 * x3)) - 1), .long w3, .long (sh_lsl w3 (x2 - 1))]))]) (ci := 1) (v := .long (sh_lsl w3 (x2 - 1))) (ty := .long) (C := RX1) (T := TX1) (N := 6) hx hb hts hinX1 tyX1 tyX1_ok nmX1 hown hK hP hD hS 0 rfl rfl 5 (by decide) lk6 (fun _ h9 => h9) rfl (by decide +kernel) rfl rfl (Nat.le_of_ble_eq_true rfl) rfl dX1_lay_85 (fun H locs hP hD hS => ?_)
  cases h
  exact sh_rwv hx hb hr hlocks hQ hK hP hD hS dX1_lay_88
theorem hdV_X1_way : yX1_way.cls = RX1 ∧ yX1_way.cls ≠ "java/lang/invoke/MethodHandle" ∧ yX1_way.cls ≠ "java/lang/invoke/VarHandle" ∧ (parseMethodDescriptor yX1_way.desc).map (fun d => d.parameters.length) = some 0 := by decide +kernel
abbrev rmX1_way : Room := { frames := 0, cells := 0, slots := 0, locals := 0 }
set_option maxHeartbeats 4000000 in
set_option maxRecDepth 100000 in
theorem k_X1_way (l : Launch) (D : va_G) (cI cJ cZ : ClassId) (aG : Nat) (gw : Int32) (gd : Int32) (gh : Int32) (ga : Int64) (gl : Int64) (gr : Int64) (o : Int32) (h : fX1_way gw = some o) : Met l yX1_way wsX1_way rmX1_way (sh_Pr D (sh_ty cI cJ cZ) [(aG, .inr (1, [.int gw, .int gd, .int gh, .long ga, .long gl, .long gr]))] [.ref aG]) (vp_Si (fun z => z = o)) 0 0 (fun _ => False) := by
  refine Met.ofW (cc := cX1_way) (maxL := 1) (ret := (some .int)) (by decide) rfl ?_
  intro p e s m args below meth c s₁ hB hml hv
  obtain ⟨hargs, hP, hK⟩ := hv
  have hx := hB.exec
  have hb := hB.bytes
  have hr := hB.returns
  have hts := atoms_spec (ws := wsX1_way) hB.pre
  have hown : s.vm.findClass RX1 = some m.cls := findClass_of_methodNamed hB.named
  have hlocks := hB.notSynchronized
  have hfix : CallFix p m c cX1_way 1 s args wsX1_way RX1 := ⟨hx, hb, hml, hown, hts⟩
  have hinX1 : ∀ w ∈ wsX10, w ∈ wsX1_way := by decide +kernel
  have lk1 := hts (.fieldLink RX1 15 "ShadeTree$Grid" "way" "I") (by decide +kernel)
  rw [show entryFrame m args 1 = entryFrame m ([.ref aG] : List Value).toArray 1 by rw [hargs], lg_entry_eq]
  have hl := lv_entry ([.ref aG]) (n := 1) (Nat.le_of_ble_eq_true rfl)
  generalize (lg_sl ([.ref aG]) ++ List.replicate (1 - (lg_sl ([.ref aG])).length) Slot.unset).toArray = ls at hl ⊢
  have hl : lv_has ls 1 [(0, .ref aG)] := hl
  generalize hQ : MQ below (vp_Si (fun z => z = o)) args s 0 0 (fun _ => False) = Q
  unfold fX1_way at h
  refine lv_aload_n hx hb dX1_way_0 rfl (lv_at hl 0 rfl) ?_
  refine va_get (ci := 1) (v := .int gw) (C := RX1) (T := TX1) (N := 6) hx hb hts hinX1 hown hK hP 0 rfl rfl 0 (by decide) lk1 (fun _ h9 => h9) rfl dX1_way_1 ?_
  exact sh_roi hx hb hr hlocks hQ (Option.some.inj h) dX1_way_4
theorem hdV_X1_wide : yX1_wide.cls = RX1 ∧ yX1_wide.cls ≠ "java/lang/invoke/MethodHandle" ∧ yX1_wide.cls ≠ "java/lang/invoke/VarHandle" ∧ (parseMethodDescriptor yX1_wide.desc).map (fun d => d.parameters.length) = some 0 := by decide +kernel
abbrev rmX1_wide : Room := { frames := 0, cells := 0, slots := 0, locals := 0 }
set_option maxHeartbeats 4000000 in
set_option maxRecDepth 100000 in
theorem k_X1_wide (l : Launch) (D : va_G) (cI cJ cZ : ClassId) (aG : Nat) (gw : Int32) (gd : Int32) (gh : Int32) (ga : Int64) (gl : Int64) (gr : Int64) (o : Int32) (h : fX1_wide gd = some o) : Met l yX1_wide wsX1_wide rmX1_wide (sh_Pr D (sh_ty cI cJ cZ) [(aG, .inr (1, [.int gw, .int gd, .int gh, .long ga, .long gl, .long gr]))] [.ref aG]) (vp_Si (fun z => z = o)) 0 0 (fun _ => False) := by
  refine Met.ofW (cc := cX1_wide) (maxL := 1) (ret := (some .int)) (by decide) rfl ?_
  intro p e s m args below meth c s₁ hB hml hv
  obtain ⟨hargs, hP, hK⟩ := hv
  have hx := hB.exec
  have hb := hB.bytes
  have hr := hB.returns
  have hts := atoms_spec (ws := wsX1_wide) hB.pre
  have hown : s.vm.findClass RX1 = some m.cls := findClass_of_methodNamed hB.named
  have hlocks := hB.notSynchronized
  have hfix : CallFix p m c cX1_wide 1 s args wsX1_wide RX1 := ⟨hx, hb, hml, hown, hts⟩
  have hinX1 : ∀ w ∈ wsX10, w ∈ wsX1_wide := by decide +kernel
  have lk1 := hts (.fieldLink RX1 19 "ShadeTree$Grid" "wide" "I") (by decide +kernel)
  rw [show entryFrame m args 1 = entryFrame m ([.ref aG] : List Value).toArray 1 by rw [hargs], lg_entry_eq]
  have hl := lv_entry ([.ref aG]) (n := 1) (Nat.le_of_ble_eq_true rfl)
  generalize (lg_sl ([.ref aG]) ++ List.replicate (1 - (lg_sl ([.ref aG])).length) Slot.unset).toArray = ls at hl ⊢
  have hl : lv_has ls 1 [(0, .ref aG)] := hl
  generalize hQ : MQ below (vp_Si (fun z => z = o)) args s 0 0 (fun _ => False) = Q
  unfold fX1_wide at h
  refine lv_aload_n hx hb dX1_wide_0 rfl (lv_at hl 0 rfl) ?_
  refine va_get (ci := 1) (v := .int gd) (C := RX1) (T := TX1) (N := 6) hx hb hts hinX1 hown hK hP 0 rfl rfl 1 (by decide) lk1 (fun _ h9 => h9) rfl dX1_wide_1 ?_
  exact sh_roi hx hb hr hlocks hQ (Option.some.inj h) dX1_wide_4
theorem hdV_X1_high : yX1_high.cls = RX1 ∧ yX1_high.cls ≠ "java/lang/invoke/MethodHandle" ∧ yX1_high.cls ≠ "java/lang/invoke/VarHandle" ∧ (parseMethodDescriptor yX1_high.desc).map (fun d => d.parameters.length) = some 0 := by decide +kernel
abbrev rmX1_high : Room := { frames := 0, cells := 0, slots := 0, locals := 0 }
set_option maxHeartbeats 4000000 in
set_option maxRecDepth 100000 in
theorem k_X1_high (l : Launch) (D : va_G) (cI cJ cZ : ClassId) (aG : Nat) (gw : Int32) (gd : Int32) (gh : Int32) (ga : Int64) (gl : Int64) (gr : Int64) (o : Int32) (h : fX1_high gh = some o) : Met l yX1_high wsX1_high rmX1_high (sh_Pr D (sh_ty cI cJ cZ) [(aG, .inr (1, [.int gw, .int gd, .int gh, .long ga, .long gl, .long gr]))] [.ref aG]) (vp_Si (fun z => z = o)) 0 0 (fun _ => False) := by
  refine Met.ofW (cc := cX1_high) (maxL := 1) (ret := (some .int)) (by decide) rfl ?_
  intro p e s m args below meth c s₁ hB hml hv
  obtain ⟨hargs, hP, hK⟩ := hv
  have hx := hB.exec
  have hb := hB.bytes
  have hr := hB.returns
  have hts := atoms_spec (ws := wsX1_high) hB.pre
  have hown : s.vm.findClass RX1 = some m.cls := findClass_of_methodNamed hB.named
  have hlocks := hB.notSynchronized
  have hfix : CallFix p m c cX1_high 1 s args wsX1_high RX1 := ⟨hx, hb, hml, hown, hts⟩
  have hinX1 : ∀ w ∈ wsX10, w ∈ wsX1_high := by decide +kernel
  have lk1 := hts (.fieldLink RX1 22 "ShadeTree$Grid" "high" "I") (by decide +kernel)
  rw [show entryFrame m args 1 = entryFrame m ([.ref aG] : List Value).toArray 1 by rw [hargs], lg_entry_eq]
  have hl := lv_entry ([.ref aG]) (n := 1) (Nat.le_of_ble_eq_true rfl)
  generalize (lg_sl ([.ref aG]) ++ List.replicate (1 - (lg_sl ([.ref aG])).length) Slot.unset).toArray = ls at hl ⊢
  have hl : lv_has ls 1 [(0, .ref aG)] := hl
  generalize hQ : MQ below (vp_Si (fun z => z = o)) args s 0 0 (fun _ => False) = Q
  unfold fX1_high at h
  refine lv_aload_n hx hb dX1_high_0 rfl (lv_at hl 0 rfl) ?_
  refine va_get (ci := 1) (v := .int gh) (C := RX1) (T := TX1) (N := 6) hx hb hts hinX1 hown hK hP 0 rfl rfl 2 (by decide) lk1 (fun _ h9 => h9) rfl dX1_high_1 ?_
  exact sh_roi hx hb hr hlocks hQ (Option.some.inj h) dX1_high_4
theorem hdV_X1_size : yX1_size.cls = RX1 ∧ yX1_size.cls ≠ "java/lang/invoke/MethodHandle" ∧ yX1_size.cls ≠ "java/lang/invoke/VarHandle" ∧ (parseMethodDescriptor yX1_size.desc).map (fun d => d.parameters.length) = some 0 := by decide +kernel
abbrev rmX1_size : Room := { frames := 0, cells := 0, slots := 0, locals := 0 }
set_option maxHeartbeats 4000000 in
set_option maxRecDepth 100000 in
theorem k_X1_size (l : Launch) (D : va_G) (cI cJ cZ : ClassId) (aG : Nat) (gw : Int32) (gd : Int32) (gh : Int32) (ga : Int64) (gl : Int64) (gr : Int64) (o : Int32) (h : fX1_size gd gh = some o) : Met l yX1_size wsX1_size rmX1_size (sh_Pr D (sh_ty cI cJ cZ) [(aG, .inr (1, [.int gw, .int gd, .int gh, .long ga, .long gl, .long gr]))] [.ref aG]) (vp_Si (fun z => z = o)) 0 0 (fun _ => False) := by
  refine Met.ofW (cc := cX1_size) (maxL := 1) (ret := (some .int)) (by decide) rfl ?_
  intro p e s m args below meth c s₁ hB hml hv
  obtain ⟨hargs, hP, hK⟩ := hv
  have hx := hB.exec
  have hb := hB.bytes
  have hr := hB.returns
  have hts := atoms_spec (ws := wsX1_size) hB.pre
  have hown : s.vm.findClass RX1 = some m.cls := findClass_of_methodNamed hB.named
  have hlocks := hB.notSynchronized
  have hfix : CallFix p m c cX1_size 1 s args wsX1_size RX1 := ⟨hx, hb, hml, hown, hts⟩
  have hinX1 : ∀ w ∈ wsX10, w ∈ wsX1_size := by decide +kernel
  have lk1 := hts (.fieldLink RX1 19 "ShadeTree$Grid" "wide" "I") (by decide +kernel)
  have lk2 := hts (.fieldLink RX1 22 "ShadeTree$Grid" "high" "I") (by decide +kernel)
  rw [show entryFrame m args 1 = entryFrame m ([.ref aG] : List Value).toArray 1 by rw [hargs], lg_entry_eq]
  have hl := lv_entry ([.ref aG]) (n := 1) (Nat.le_of_ble_eq_true rfl)
  generalize (lg_sl ([.ref aG]) ++ List.replicate (1 - (lg_sl ([.ref aG])).length) Slot.unset).toArray = ls at hl ⊢
  have hl : lv_has ls 1 [(0, .ref aG)] := hl
  generalize hQ : MQ below (vp_Si (fun z => z = o)) args s 0 0 (fun _ => False) = Q
  unfold fX1_size at h
  refine lv_aload_n hx hb dX1_size_0 rfl (lv_at hl 0 rfl) ?_
  refine va_get (ci := 1) (v := .int gd) (C := RX1) (T := TX1) (N := 6) hx hb hts hinX1 hown hK hP 0 rfl rfl 1 (by decide) lk1 (fun _ h9 => h9) rfl dX1_size_1 ?_
  refine lv_aload_n hx hb dX1_size_4 rfl (lv_at hl 0 rfl) ?_
  refine va_get (ci := 1) (v := .int gh) (C := RX1) (T := TX1) (N := 6) hx hb hts hinX1 hown hK hP 0 rfl rfl 2 (by decide) lk2 (fun _ h9 => h9) rfl dX1_size_5 ?_
  refine lv_imul hx hb dX1_size_8 ?_
  exact sh_roi hx hb hr hlocks hQ (Option.some.inj h) dX1_size_9
theorem hdV_X1_all : yX1_all.cls = RX1 ∧ yX1_all.cls ≠ "java/lang/invoke/MethodHandle" ∧ yX1_all.cls ≠ "java/lang/invoke/VarHandle" ∧ (parseMethodDescriptor yX1_all.desc).map (fun d => d.parameters.length) = some 0 := by decide +kernel
abbrev rmX1_all : Room := { frames := 0, cells := 0, slots := 0, locals := 0 }
set_option maxHeartbeats 4000000 in
set_option maxRecDepth 100000 in
theorem k_X1_all (l : Launch) (D : va_G) (cI cJ cZ : ClassId) (aG : Nat) (gw : Int32) (gd : Int32) (gh : Int32) (ga : Int64) (gl : Int64) (gr : Int64) (o : Int64) (h : fX1_all ga = some o) : Met l yX1_all wsX1_all rmX1_all (sh_Pr D (sh_ty cI cJ cZ) [(aG, .inr (1, [.int gw, .int gd, .int gh, .long ga, .long gl, .long gr]))] [.ref aG]) (vp_Sl (fun z => z = o)) 0 0 (fun _ => False) := by
  refine Met.ofW (cc := cX1_all) (maxL := 1) (ret := (some .long)) (by decide) rfl ?_
  intro p e s m args below meth c s₁ hB hml hv
  obtain ⟨hargs, hP, hK⟩ := hv
  have hx := hB.exec
  have hb := hB.bytes
  have hr := hB.returns
  have hts := atoms_spec (ws := wsX1_all) hB.pre
  have hown : s.vm.findClass RX1 = some m.cls := findClass_of_methodNamed hB.named
  have hlocks := hB.notSynchronized
  have hfix : CallFix p m c cX1_all 1 s args wsX1_all RX1 := ⟨hx, hb, hml, hown, hts⟩
  have hinX1 : ∀ w ∈ wsX10, w ∈ wsX1_all := by decide +kernel
  have lk1 := hts (.fieldLink RX1 25 "ShadeTree$Grid" "all" "J") (by decide +kernel)
  rw [show entryFrame m args 1 = entryFrame m ([.ref aG] : List Value).toArray 1 by rw [hargs], lg_entry_eq]
  have hl := lv_entry ([.ref aG]) (n := 1) (Nat.le_of_ble_eq_true rfl)
  generalize (lg_sl ([.ref aG]) ++ List.replicate (1 - (lg_sl ([.ref aG])).length) Slot.unset).toArray = ls at hl ⊢
  have hl : lv_has ls 1 [(0, .ref aG)] := hl
  generalize hQ : MQ below (vp_Sl (fun z => z = o)) args s 0 0 (fun _ => False) = Q
  unfold fX1_all at h
  refine lv_aload_n hx hb dX1_all_0 rfl (lv_at hl 0 rfl) ?_
  refine va_get (ci := 1) (v := .long ga) (C := RX1) (T := TX1) (N := 6) hx hb hts hinX1 hown hK hP 0 rfl rfl 3 (by decide) lk1 (fun _ h9 => h9) rfl dX1_all_1 ?_
  exact sh_rol hx hb hr hlocks hQ (Option.some.inj h) dX1_all_4
theorem hdV_X1_hasDot : yX1_hasDot.cls = RX1 ∧ yX1_hasDot.cls ≠ "java/lang/invoke/MethodHandle" ∧ yX1_hasDot.cls ≠ "java/lang/invoke/VarHandle" ∧ (parseMethodDescriptor yX1_hasDot.desc).map (fun d => d.parameters.length) = some 1 := by decide +kernel
abbrev rmX1_hasDot : Room := { frames := 1, cells := 0, slots := 0, locals := 20 }
set_option maxHeartbeats 4000000 in
set_option maxRecDepth 100000 in
theorem k_X1_hasDot (l : Launch) (D : va_G) (cI cJ cZ : ClassId) (aG : Nat) (gw : Int32) (gd : Int32) (gh : Int32) (ga : Int64) (gl : Int64) (gr : Int64) (x1 : Int32) (o : Int32) (h : fX1_hasDot gd gh x1 = some o) : Met l yX1_hasDot wsX1_hasDot rmX1_hasDot (sh_Pr D (sh_ty cI cJ cZ) [(aG, .inr (1, [.int gw, .int gd, .int gh, .long ga, .long gl, .long gr]))] [.ref aG, .int x1]) (vp_Si (fun z => z = o)) 0 0 (fun _ => False) := by
  refine Met.ofW (cc := cX1_hasDot) (maxL := 2) (ret := (some .boolean)) (by decide) rfl ?_
  intro p e s m args below meth c s₁ hB hml hv
  obtain ⟨hargs, hP, hK⟩ := hv
  have hx := hB.exec
  have hb := hB.bytes
  have hr := hB.returns
  have hts := atoms_spec (ws := wsX1_hasDot) hB.pre
  have hown : s.vm.findClass RX1 = some m.cls := findClass_of_methodNamed hB.named
  have hlocks := hB.notSynchronized
  have hfix : CallFix p m c cX1_hasDot 2 s args wsX1_hasDot RX1 := ⟨hx, hb, hml, hown, hts⟩
  rw [show entryFrame m args 2 = entryFrame m ([.ref aG, .int x1] : List Value).toArray 2 by rw [hargs], lg_entry_eq]
  have hl := lv_entry ([.ref aG, .int x1]) (n := 2) (Nat.le_of_ble_eq_true rfl)
  generalize (lg_sl ([.ref aG, .int x1]) ++ List.replicate (2 - (lg_sl ([.ref aG, .int x1])).length) Slot.unset).toArray = ls at hl ⊢
  have hl : lv_has ls 2 [(0, .ref aG), (1, .int x1)] := hl
  generalize hQ : MQ below (vp_Si (fun z => z = o)) args s 0 0 (fun _ => False) = Q
  unfold fX1_hasDot at h
  refine lv_iload_n hx hb dX1_hasDot_0 rfl (lv_at hl 1 rfl) ?_
  refine lv_if_lt (tgt := 16) hx hb dX1_hasDot_1 (by decide) (fun g1 => ?_) (fun g1 => ?_)
  · rw [if_pos g1] at h
    refine lv_iconst (v := 0) hx hb dX1_hasDot_16 (by decide) ?_
    exact sh_roz hx hb hr hlocks hQ ⟨rfl, (Option.some.inj h)⟩ dX1_hasDot_17
  · rw [if_neg g1] at h
    refine lv_iload_n hx hb dX1_hasDot_4 rfl (lv_at hl 1 rfl) ?_
    refine lv_aload_n hx hb dX1_hasDot_5 rfl (lv_at hl 0 rfl) ?_
    obtain ⟨v2, hc3, h⟩ := sh_b1_e h
    refine sh_cVi (As := []) (rest := [.int x1]) hfix (k_X1_size l D cI cJ cZ aG gw gd gh ga gl gr v2 hc3) (cwV 0 hts gX1_hasDot_X1_size rfl rfl rfl hdV_X1_size ⟨Nat.le_of_ble_eq_true rfl, Nat.le_of_ble_eq_true rfl⟩) hP hK [0] rfl 0 rfl rfl rfl hl.1 rfl (Nat.le_of_ble_eq_true rfl) dX1_hasDot_6 ⟨Nat.zero_le _, Nat.zero_le _⟩ ?_
    refine lv_icmp_ge (tgt := 16) hx hb dX1_hasDot_9 (by decide) (fun g4 => ?_) (fun g4 => ?_)
    · rw [if_pos g4] at h
      refine lv_iconst (v := 0) hx hb dX1_hasDot_16 (by decide) ?_
      exact sh_roz hx hb hr hlocks hQ ⟨rfl, (Option.some.inj h)⟩ dX1_hasDot_17
    · rw [if_neg g4] at h
      refine lv_iconst (v := 1) hx hb dX1_hasDot_12 (by decide) ?_
      refine lv_goto (tgt := 17) hx hb dX1_hasDot_13 (by decide) ?_
      exact sh_roz hx hb hr hlocks hQ ⟨rfl, (Option.some.inj h)⟩ dX1_hasDot_17
theorem hdV_X1_hasRow : yX1_hasRow.cls = RX1 ∧ yX1_hasRow.cls ≠ "java/lang/invoke/MethodHandle" ∧ yX1_hasRow.cls ≠ "java/lang/invoke/VarHandle" ∧ (parseMethodDescriptor yX1_hasRow.desc).map (fun d => d.parameters.length) = some 1 := by decide +kernel
abbrev rmX1_hasRow : Room := { frames := 0, cells := 0, slots := 0, locals := 0 }
set_option maxHeartbeats 4000000 in
set_option maxRecDepth 100000 in
theorem k_X1_hasRow (l : Launch) (D : va_G) (cI cJ cZ : ClassId) (aG : Nat) (gw : Int32) (gd : Int32) (gh : Int32) (ga : Int64) (gl : Int64) (gr : Int64) (x1 : Int32) (o : Int32) (h : fX1_hasRow gh x1 = some o) : Met l yX1_hasRow wsX1_hasRow rmX1_hasRow (sh_Pr D (sh_ty cI cJ cZ) [(aG, .inr (1, [.int gw, .int gd, .int gh, .long ga, .long gl, .long gr]))] [.ref aG, .int x1]) (vp_Si (fun z => z = o)) 0 0 (fun _ => False) := by
  refine Met.ofW (cc := cX1_hasRow) (maxL := 2) (ret := (some .boolean)) (by decide) rfl ?_
  intro p e s m args below meth c s₁ hB hml hv
  obtain ⟨hargs, hP, hK⟩ := hv
  have hx := hB.exec
  have hb := hB.bytes
  have hr := hB.returns
  have hts := atoms_spec (ws := wsX1_hasRow) hB.pre
  have hown : s.vm.findClass RX1 = some m.cls := findClass_of_methodNamed hB.named
  have hlocks := hB.notSynchronized
  have hfix : CallFix p m c cX1_hasRow 2 s args wsX1_hasRow RX1 := ⟨hx, hb, hml, hown, hts⟩
  have hinX1 : ∀ w ∈ wsX10, w ∈ wsX1_hasRow := by decide +kernel
  have lk1 := hts (.fieldLink RX1 22 "ShadeTree$Grid" "high" "I") (by decide +kernel)
  rw [show entryFrame m args 2 = entryFrame m ([.ref aG, .int x1] : List Value).toArray 2 by rw [hargs], lg_entry_eq]
  have hl := lv_entry ([.ref aG, .int x1]) (n := 2) (Nat.le_of_ble_eq_true rfl)
  generalize (lg_sl ([.ref aG, .int x1]) ++ List.replicate (2 - (lg_sl ([.ref aG, .int x1])).length) Slot.unset).toArray = ls at hl ⊢
  have hl : lv_has ls 2 [(0, .ref aG), (1, .int x1)] := hl
  generalize hQ : MQ below (vp_Si (fun z => z = o)) args s 0 0 (fun _ => False) = Q
  unfold fX1_hasRow at h
  refine lv_iload_n hx hb dX1_hasRow_0 rfl (lv_at hl 1 rfl) ?_
  refine lv_if_lt (tgt := 16) hx hb dX1_hasRow_1 (by decide) (fun g1 => ?_) (fun g1 => ?_)
  · rw [if_pos g1] at h
    refine lv_iconst (v := 0) hx hb dX1_hasRow_16 (by decide) ?_
    exact sh_roz hx hb hr hlocks hQ ⟨rfl, (Option.some.inj h)⟩ dX1_hasRow_17
  · rw [if_neg g1] at h
    refine lv_iload_n hx hb dX1_hasRow_4 rfl (lv_at hl 1 rfl) ?_
    refine lv_aload_n hx hb dX1_hasRow_5 rfl (lv_at hl 0 rfl) ?_
    refine va_get (ci := 1) (v := .int gh) (C := RX1) (T := TX1) (N := 6) hx hb hts hinX1 hown hK hP 0 rfl rfl 2 (by decide) lk1 (fun _ h9 => h9) rfl dX1_hasRow_6 ?_
    refine lv_icmp_ge (tgt := 16) hx hb dX1_hasRow_9 (by decide) (fun g2 => ?_) (fun g2 => ?_)
    · rw [if_pos g2] at h
      refine lv_iconst (v := 0) hx hb dX1_hasRow_16 (by decide) ?_
      exact sh_roz hx hb hr hlocks hQ ⟨rfl, (Option.some.inj h)⟩ dX1_hasRow_17
    · rw [if_neg g2] at h
      refine lv_iconst (v := 1) hx hb dX1_hasRow_12 (by decide) ?_
      refine lv_goto (tgt := 17) hx hb dX1_hasRow_13 (by decide) ?_
      exact sh_roz hx hb hr hlocks hQ ⟨rfl, (Option.some.inj h)⟩ dX1_hasRow_17
theorem hdV_X1_row : yX1_row.cls = RX1 ∧ yX1_row.cls ≠ "java/lang/invoke/MethodHandle" ∧ yX1_row.cls ≠ "java/lang/invoke/VarHandle" ∧ (parseMethodDescriptor yX1_row.desc).map (fun d => d.parameters.length) = some 1 := by decide +kernel
abbrev rmX1_row : Room := { frames := 0, cells := 0, slots := 0, locals := 0 }
set_option maxHeartbeats 4000000 in
set_option maxRecDepth 100000 in
theorem k_X1_row (l : Launch) (D : va_G) (cI cJ cZ : ClassId) (aG : Nat) (gw : Int32) (gd : Int32) (gh : Int32) (ga : Int64) (gl : Int64) (gr : Int64) (x1 : Int32) (o : Int64) (h : fX1_row gd x1 = some o) : Met l yX1_row wsX1_row rmX1_row (sh_Pr D (sh_ty cI cJ cZ) [(aG, .inr (1, [.int gw, .int gd, .int gh, .long ga, .long gl, .long gr]))] [.ref aG, .int x1]) (vp_Sl (fun z => z = o)) 0 0 (fun _ => False) := by
  refine Met.ofW (cc := cX1_row) (maxL := 2) (ret := (some .long)) (by decide) rfl ?_
  intro p e s m args below meth c s₁ hB hml hv
  obtain ⟨hargs, hP, hK⟩ := hv
  have hx := hB.exec
  have hb := hB.bytes
  have hr := hB.returns
  have hts := atoms_spec (ws := wsX1_row) hB.pre
  have hown : s.vm.findClass RX1 = some m.cls := findClass_of_methodNamed hB.named
  have hlocks := hB.notSynchronized
  have hfix : CallFix p m c cX1_row 2 s args wsX1_row RX1 := ⟨hx, hb, hml, hown, hts⟩
  have hinX1 : ∀ w ∈ wsX10, w ∈ wsX1_row := by decide +kernel
  have lk1 := hts (.fieldLink RX1 19 "ShadeTree$Grid" "wide" "I") (by decide +kernel)
  rw [show entryFrame m args 2 = entryFrame m ([.ref aG, .int x1] : List Value).toArray 2 by rw [hargs], lg_entry_eq]
  have hl := lv_entry ([.ref aG, .int x1]) (n := 2) (Nat.le_of_ble_eq_true rfl)
  generalize (lg_sl ([.ref aG, .int x1]) ++ List.replicate (2 - (lg_sl ([.ref aG, .int x1])).length) Slot.unset).toArray = ls at hl ⊢
  have hl : lv_has ls 2 [(0, .ref aG), (1, .int x1)] := hl
  generalize hQ : MQ below (vp_Sl (fun z => z = o)) args s 0 0 (fun _ => False) = Q
  unfold fX1_row at h
  refine lv_lconst (v := 1) hx hb dX1_row_0 (by decide) ?_
  refine lv_aload_n hx hb dX1_row_1 rfl (lv_at hl 0 rfl) ?_
  refine va_get (ci := 1) (v := .int gd) (C := RX1) (T := TX1) (N := 6) hx hb hts hinX1 hown hK hP 0 rfl rfl 1 (by decide) lk1 (fun _ h9 => h9) rfl dX1_row_2 ?_
  refine lv_lshl (v := (sh_lsl 1 gd)) hx hb dX1_row_5 rfl ?_
  refine lv_lconst (v := 1) hx hb dX1_row_6 (by decide) ?_
  refine lv_lsub hx hb dX1_row_7 ?_
  refine lv_iload_n hx hb dX1_row_8 rfl (lv_at hl 1 rfl) ?_
  refine lv_aload_n hx hb dX1_row_9 rfl (lv_at hl 0 rfl) ?_
  refine va_get (ci := 1) (v := .int gd) (C := RX1) (T := TX1) (N := 6) hx hb hts hinX1 hown hK hP 0 rfl rfl 1 (by decide) lk1 (fun _ h9 => h9) rfl dX1_row_10 ?_
  refine lv_imul hx hb dX1_row_13 ?_
  refine lv_lshl (v := (sh_lsl ((sh_lsl 1 gd) - 1) (x1 * gd))) hx hb dX1_row_14 rfl ?_
  exact sh_rol hx hb hr hlocks hQ (Option.some.inj h) dX1_row_15
theorem hdV_X1_rows : yX1_rows.cls = RX1 ∧ yX1_rows.cls ≠ "java/lang/invoke/MethodHandle" ∧ yX1_rows.cls ≠ "java/lang/invoke/VarHandle" ∧ (parseMethodDescriptor yX1_rows.desc).map (fun d => d.parameters.length) = some 1 := by decide +kernel
abbrev rmX1_rows : Room := { frames := 1, cells := 0, slots := 0, locals := 21 }
set_option maxHeartbeats 4000000 in
set_option maxRecDepth 100000 in
theorem k_X1_rows (l : Launch) (D : va_G) (cI cJ cZ : ClassId) (aG : Nat) (gw : Int32) (gd : Int32) (gh : Int32) (ga : Int64) (gl : Int64) (gr : Int64) (x1 : Int32) (o : Int64) (h : fX1_rows gd gh x1 = some o) : Met l yX1_rows wsX1_rows rmX1_rows (sh_Pr D (sh_ty cI cJ cZ) [(aG, .inr (1, [.int gw, .int gd, .int gh, .long ga, .long gl, .long gr]))] [.ref aG, .int x1]) (vp_Sl (fun z => z = o)) 0 0 (fun _ => False) := by
  refine Met.ofW (cc := cX1_rows) (maxL := 5) (ret := (some .long)) (by decide) rfl ?_
  intro p e s m args below meth c s₁ hB hml hv
  obtain ⟨hargs, hP, hK⟩ := hv
  have hx := hB.exec
  have hb := hB.bytes
  have hr := hB.returns
  have hts := atoms_spec (ws := wsX1_rows) hB.pre
  have hown : s.vm.findClass RX1 = some m.cls := findClass_of_methodNamed hB.named
  have hlocks := hB.notSynchronized
  have hfix : CallFix p m c cX1_rows 5 s args wsX1_rows RX1 := ⟨hx, hb, hml, hown, hts⟩
  have hinX1 : ∀ w ∈ wsX10, w ∈ wsX1_rows := by decide +kernel
  have lk1 := hts (.fieldLink RX1 22 "ShadeTree$Grid" "high" "I") (by decide +kernel)
  rw [show entryFrame m args 5 = entryFrame m ([.ref aG, .int x1] : List Value).toArray 5 by rw [hargs], lg_entry_eq]
  have hl := lv_entry ([.ref aG, .int x1]) (n := 5) (Nat.le_of_ble_eq_true rfl)
  generalize (lg_sl ([.ref aG, .int x1]) ++ List.replicate (5 - (lg_sl ([.ref aG, .int x1])).length) Slot.unset).toArray = ls at hl ⊢
  have hl : lv_has ls 5 [(0, .ref aG), (1, .int x1)] := hl
  generalize hQ : MQ below (vp_Sl (fun z => z = o)) args s 0 0 (fun _ => False) = Q
  unfold fX1_rows at h
  refine lv_lconst (v := 0) hx hb dX1_rows_0 (by decide) ?_
  refine lv_lstore_n (lv' := [(2, .long 0), (0, .ref aG), (1, .int x1)]) hx hb dX1_rows_1 rfl hl (by decide) rfl (fun ls hl => ?_)
  refine lv_iconst (v := 0) hx hb dX1_rows_2 (by decide) ?_
  refine lv_istore (lv' := [(4, .int 0), (2, .long 0), (0, .ref aG), (1, .int x1)]) hx hb dX1_rows_3 hl (by decide) rfl (fun ls hl => ?_)
  have LP5 : ∀ (n : Nat) (x1 : Int32) (x2 : Int64) (x4 : Int32) (ow2 : Int64) (ls : Array Slot), fX1_rows_L5 n x1 x2 x4 gd gh = some ow2 → lv_has ls 5 [(0, .ref aG), (1, .int x1), (2, .long x2), (4, .int x4)] → (∀ (ls : Array Slot), lv_has ls 5 [(2, .long ow2)] → W p l e (headSpec wsX1_rows rmX1_rows).room s m args below meth c s.heap [] 0 0 Q (F0 m 38 ls [])) → W p l e (headSpec wsX1_rows rmX1_rows).room s m args below meth c s.heap [] 0 0 Q (F0 m 5 ls []) := by
    intro n
    induction n with
    | zero =>
      intro x1 x2 x4 ow2 ls h hl hk
      exact nomatch ((fX1_rows_L5_z x1 x2 x4 gd gh).symm.trans h)
    | succ n ih =>
      intro x1 x2 x4 ow2 ls h hl hk
      rw [fX1_rows_L5_s] at h
      refine lv_iload hx hb dX1_rows_5 (lv_at hl 3 rfl) ?_
      refine lv_aload_n hx hb dX1_rows_7 rfl (lv_at hl 0 rfl) ?_
      refine va_get (ci := 1) (v := .int gh) (C := RX1) (T := TX1) (N := 6) hx hb hts hinX1 hown hK hP 0 rfl rfl 2 (by decide) lk1 (fun _ h9 => h9) rfl dX1_rows_8 ?_
      refine lv_icmp_ge (tgt := 38) hx hb dX1_rows_11 (by decide) (fun g1 => ?_) (fun g1 => ?_)
      · rw [if_pos g1] at h
        cases h
        exact hk ls (lv_sub hl [2] rfl) 
      · rw [if_neg g1] at h
        refine lv_iload_n hx hb dX1_rows_14 rfl (lv_at hl 1 rfl) ?_
        refine lv_iload hx hb dX1_rows_15 (lv_at hl 3 rfl) ?_
        refine lv_ishr hx hb dX1_rows_17 ?_
        refine lv_iconst (v := 1) hx hb dX1_rows_18 (by decide) ?_
        refine lv_iand hx hb dX1_rows_19 ?_
        refine lv_if_eq (tgt := 32) hx hb dX1_rows_20 (by decide) (fun g2 => ?_) (fun g2 => ?_)
        · rw [if_pos g2] at h
          refine lv_iinc (v := (x4 + 1)) (lv' := [(4, .int (x4 + 1)), (0, .ref aG), (1, .int x1), (2, .long x2)]) hx hb dX1_rows_32 hl (k := 3) rfl rfl (by decide) rfl (fun ls hl => ?_)
          refine lv_goto (tgt := 5) hx hb dX1_rows_35 (by decide) ?_
          exact ih x1 x2 (x4 + 1) ow2 ls h (lv_sub hl [1, 2, 3, 0] rfl)  hk
        · rw [if_neg g2] at h
          refine lv_lload_n hx hb dX1_rows_23 rfl (lv_at hl 2 rfl) ?_
          refine lv_aload_n hx hb dX1_rows_24 rfl (lv_at hl 0 rfl) ?_
          refine lv_iload hx hb dX1_rows_25 (lv_at hl 3 rfl) ?_
          obtain ⟨v3, hc4, h⟩ := sh_b1_e h
          refine sh_cVl (As := [.int x4]) (rest := [.long x2]) hfix (k_X1_row l D cI cJ cZ aG gw gd gh ga gl gr x4 v3 hc4) (cwV 1 hts gX1_rows_X1_row rfl rfl rfl hdV_X1_row ⟨Nat.le_of_ble_eq_true rfl, Nat.le_of_ble_eq_true rfl⟩) hP hK [0] rfl 0 rfl rfl rfl hl.1 rfl (Nat.le_of_ble_eq_true rfl) dX1_rows_27 ⟨Nat.zero_le _, Nat.zero_le _⟩ ?_
          refine lv_lor hx hb dX1_rows_30 ?_
          refine lv_lstore_n (lv' := [(2, .long (x2 ||| v3)), (0, .ref aG), (1, .int x1), (4, .int x4)]) hx hb dX1_rows_31 rfl hl (by decide) rfl (fun ls hl => ?_)
          refine lv_iinc (v := (x4 + 1)) (lv' := [(4, .int (x4 + 1)), (2, .long (x2 ||| v3)), (0, .ref aG), (1, .int x1)]) hx hb dX1_rows_32 hl (k := 3) rfl rfl (by decide) rfl (fun ls hl => ?_)
          refine lv_goto (tgt := 5) hx hb dX1_rows_35 (by decide) ?_
          exact ih x1 (x2 ||| v3) (x4 + 1) ow2 ls h (lv_sub hl [2, 3, 1, 0] rfl)  hk
  obtain ⟨w6, hc7, h⟩ := sh_b1_e h
  refine LP5 sh_fu x1 0 0 w6 ls hc7 (lv_sub hl [2, 3, 1, 0] rfl)  (fun ls hl  => ?_)
  refine lv_lload_n hx hb dX1_rows_38 rfl (lv_at hl 0 rfl) ?_
  exact sh_rol hx hb hr hlocks hQ (Option.some.inj h) dX1_rows_39
theorem hdV_X1_columnsOf : yX1_columnsOf.cls = RX1 ∧ yX1_columnsOf.cls ≠ "java/lang/invoke/MethodHandle" ∧ yX1_columnsOf.cls ≠ "java/lang/invoke/VarHandle" ∧ (parseMethodDescriptor yX1_columnsOf.desc).map (fun d => d.parameters.length) = some 1 := by decide +kernel
abbrev rmX1_columnsOf : Room := { frames := 0, cells := 0, slots := 0, locals := 0 }
set_option maxHeartbeats 4000000 in
set_option maxRecDepth 100000 in
theorem k_X1_columnsOf (l : Launch) (D : va_G) (cI cJ cZ : ClassId) (aG : Nat) (gw : Int32) (gd : Int32) (gh : Int32) (ga : Int64) (gl : Int64) (gr : Int64) (x1 : Int64) (o : Int32) (h : fX1_columnsOf gd gl x1 = some o) : Met l yX1_columnsOf wsX1_columnsOf rmX1_columnsOf (sh_Pr D (sh_ty cI cJ cZ) [(aG, .inr (1, [.int gw, .int gd, .int gh, .long ga, .long gl, .long gr]))] [.ref aG, .long x1]) (vp_Si (fun z => z = o)) 0 0 (fun _ => False) := by
  refine Met.ofW (cc := cX1_columnsOf) (maxL := 5) (ret := (some .int)) (by decide) rfl ?_
  intro p e s m args below meth c s₁ hB hml hv
  obtain ⟨hargs, hP, hK⟩ := hv
  have hx := hB.exec
  have hb := hB.bytes
  have hr := hB.returns
  have hts := atoms_spec (ws := wsX1_columnsOf) hB.pre
  have hown : s.vm.findClass RX1 = some m.cls := findClass_of_methodNamed hB.named
  have hlocks := hB.notSynchronized
  have hfix : CallFix p m c cX1_columnsOf 5 s args wsX1_columnsOf RX1 := ⟨hx, hb, hml, hown, hts⟩
  have hinX1 : ∀ w ∈ wsX10, w ∈ wsX1_columnsOf := by decide +kernel
  have lk1 := hts (.fieldLink RX1 19 "ShadeTree$Grid" "wide" "I") (by decide +kernel)
  have lk2 := hts (.fieldLink RX1 29 "ShadeTree$Grid" "leftmost" "J") (by decide +kernel)
  rw [show entryFrame m args 5 = entryFrame m ([.ref aG, .long x1] : List Value).toArray 5 by rw [hargs], lg_entry_eq]
  have hl := lv_entry ([.ref aG, .long x1]) (n := 5) (Nat.le_of_ble_eq_true rfl)
  generalize (lg_sl ([.ref aG, .long x1]) ++ List.replicate (5 - (lg_sl ([.ref aG, .long x1])).length) Slot.unset).toArray = ls at hl ⊢
  have hl : lv_has ls 5 [(0, .ref aG), (1, .long x1)] := hl
  generalize hQ : MQ below (vp_Si (fun z => z = o)) args s 0 0 (fun _ => False) = Q
  unfold fX1_columnsOf at h
  refine lv_iconst (v := 0) hx hb dX1_columnsOf_0 (by decide) ?_
  refine lv_istore_n (lv' := [(3, .int 0), (0, .ref aG), (1, .long x1)]) hx hb dX1_columnsOf_1 rfl hl (by decide) rfl (fun ls hl => ?_)
  refine lv_iconst (v := 0) hx hb dX1_columnsOf_2 (by decide) ?_
  refine lv_istore (lv' := [(4, .int 0), (3, .int 0), (0, .ref aG), (1, .long x1)]) hx hb dX1_columnsOf_3 hl (by decide) rfl (fun ls hl => ?_)
  have LP3 : ∀ (n : Nat) (x1 : Int64) (x3 : Int32) (x4 : Int32) (ow3 : Int32) (ls : Array Slot), fX1_columnsOf_L5 n x1 x3 x4 gd gl = some ow3 → lv_has ls 5 [(0, .ref aG), (1, .long x1), (3, .int x3), (4, .int x4)] → (∀ (ls : Array Slot), lv_has ls 5 [(3, .int ow3)] → W p l e (headSpec wsX1_columnsOf rmX1_columnsOf).room s m args below meth c s.heap [] 0 0 Q (F0 m 37 ls [])) → W p l e (headSpec wsX1_columnsOf rmX1_columnsOf).room s m args below meth c s.heap [] 0 0 Q (F0 m 5 ls []) := by
    intro n
    induction n with
    | zero =>
      intro x1 x3 x4 ow3 ls h hl hk
      exact nomatch ((fX1_columnsOf_L5_z x1 x3 x4 gd gl).symm.trans h)
    | succ n ih =>
      intro x1 x3 x4 ow3 ls h hl hk
      rw [fX1_columnsOf_L5_s] at h
      refine lv_iload hx hb dX1_columnsOf_5 (lv_at hl 3 rfl) ?_
      refine lv_aload_n hx hb dX1_columnsOf_7 rfl (lv_at hl 0 rfl) ?_
      refine va_get (ci := 1) (v := .int gd) (C := RX1) (T := TX1) (N := 6) hx hb hts hinX1 hown hK hP 0 rfl rfl 1 (by decide) lk1 (fun _ h9 => h9) rfl dX1_columnsOf_8 ?_
      refine lv_icmp_ge (tgt := 37) hx hb dX1_columnsOf_11 (by decide) (fun g1 => ?_) (fun g1 => ?_)
      · rw [if_pos g1] at h
        cases h
        exact hk ls (lv_sub hl [2] rfl) 
      · rw [if_neg g1] at h
        refine lv_lload_n hx hb dX1_columnsOf_14 rfl (lv_at hl 1 rfl) ?_
        refine lv_aload_n hx hb dX1_columnsOf_15 rfl (lv_at hl 0 rfl) ?_
        refine va_get (ci := 1) (v := .long gl) (C := RX1) (T := TX1) (N := 6) hx hb hts hinX1 hown hK hP 0 rfl rfl 4 (by decide) lk2 (fun _ h9 => h9) rfl dX1_columnsOf_16 ?_
        refine lv_iload hx hb dX1_columnsOf_19 (lv_at hl 3 rfl) ?_
        refine lv_lshl (v := (sh_lsl gl x4)) hx hb dX1_columnsOf_21 rfl ?_
        refine lv_land hx hb dX1_columnsOf_22 ?_
        refine lv_lconst (v := 0) hx hb dX1_columnsOf_23 (by decide) ?_
        refine sh_leq (tgt := 31) hx hb dX1_columnsOf_24 dX1_columnsOf_25 (by decide) (fun g2 => ?_) (fun g2 => ?_)
        · rw [if_pos g2] at h
          refine lv_iinc (v := (x4 + 1)) (lv' := [(4, .int (x4 + 1)), (0, .ref aG), (1, .long x1), (3, .int x3)]) hx hb dX1_columnsOf_31 hl (k := 3) rfl rfl (by decide) rfl (fun ls hl => ?_)
          refine lv_goto (tgt := 5) hx hb dX1_columnsOf_34 (by decide) ?_
          exact ih x1 x3 (x4 + 1) ow3 ls h (lv_sub hl [1, 2, 3, 0] rfl)  hk
        · rw [if_neg g2] at h
          refine lv_iinc (v := (x3 + 1)) (lv' := [(3, .int (x3 + 1)), (0, .ref aG), (1, .long x1), (4, .int x4)]) hx hb dX1_columnsOf_28 hl (k := 2) rfl rfl (by decide) rfl (fun ls hl => ?_)
          refine lv_iinc (v := (x4 + 1)) (lv' := [(4, .int (x4 + 1)), (3, .int (x3 + 1)), (0, .ref aG), (1, .long x1)]) hx hb dX1_columnsOf_31 hl (k := 3) rfl rfl (by decide) rfl (fun ls hl => ?_)
          refine lv_goto (tgt := 5) hx hb dX1_columnsOf_34 (by decide) ?_
          exact ih x1 (x3 + 1) (x4 + 1) ow3 ls h (lv_sub hl [2, 3, 1, 0] rfl)  hk
  obtain ⟨w4, hc5, h⟩ := sh_b1_e h
  refine LP3 sh_fu x1 0 0 w4 ls hc5 (lv_sub hl [2, 3, 1, 0] rfl)  (fun ls hl  => ?_)
  refine lv_iload_n hx hb dX1_columnsOf_37 rfl (lv_at hl 0 rfl) ?_
  exact sh_roi hx hb hr hlocks hQ (Option.some.inj h) dX1_columnsOf_38
theorem hdV_X1_rowsOf : yX1_rowsOf.cls = RX1 ∧ yX1_rowsOf.cls ≠ "java/lang/invoke/MethodHandle" ∧ yX1_rowsOf.cls ≠ "java/lang/invoke/VarHandle" ∧ (parseMethodDescriptor yX1_rowsOf.desc).map (fun d => d.parameters.length) = some 1 := by decide +kernel
abbrev rmX1_rowsOf : Room := { frames := 1, cells := 0, slots := 0, locals := 21 }
set_option maxHeartbeats 4000000 in
set_option maxRecDepth 100000 in
theorem k_X1_rowsOf (l : Launch) (D : va_G) (cI cJ cZ : ClassId) (aG : Nat) (gw : Int32) (gd : Int32) (gh : Int32) (ga : Int64) (gl : Int64) (gr : Int64) (x1 : Int64) (o : Int32) (h : fX1_rowsOf gd gh x1 = some o) : Met l yX1_rowsOf wsX1_rowsOf rmX1_rowsOf (sh_Pr D (sh_ty cI cJ cZ) [(aG, .inr (1, [.int gw, .int gd, .int gh, .long ga, .long gl, .long gr]))] [.ref aG, .long x1]) (vp_Si (fun z => z = o)) 0 0 (fun _ => False) := by
  refine Met.ofW (cc := cX1_rowsOf) (maxL := 5) (ret := (some .int)) (by decide) rfl ?_
  intro p e s m args below meth c s₁ hB hml hv
  obtain ⟨hargs, hP, hK⟩ := hv
  have hx := hB.exec
  have hb := hB.bytes
  have hr := hB.returns
  have hts := atoms_spec (ws := wsX1_rowsOf) hB.pre
  have hown : s.vm.findClass RX1 = some m.cls := findClass_of_methodNamed hB.named
  have hlocks := hB.notSynchronized
  have hfix : CallFix p m c cX1_rowsOf 5 s args wsX1_rowsOf RX1 := ⟨hx, hb, hml, hown, hts⟩
  have hinX1 : ∀ w ∈ wsX10, w ∈ wsX1_rowsOf := by decide +kernel
  have lk1 := hts (.fieldLink RX1 22 "ShadeTree$Grid" "high" "I") (by decide +kernel)
  rw [show entryFrame m args 5 = entryFrame m ([.ref aG, .long x1] : List Value).toArray 5 by rw [hargs], lg_entry_eq]
  have hl := lv_entry ([.ref aG, .long x1]) (n := 5) (Nat.le_of_ble_eq_true rfl)
  generalize (lg_sl ([.ref aG, .long x1]) ++ List.replicate (5 - (lg_sl ([.ref aG, .long x1])).length) Slot.unset).toArray = ls at hl ⊢
  have hl : lv_has ls 5 [(0, .ref aG), (1, .long x1)] := hl
  generalize hQ : MQ below (vp_Si (fun z => z = o)) args s 0 0 (fun _ => False) = Q
  unfold fX1_rowsOf at h
  refine lv_iconst (v := 0) hx hb dX1_rowsOf_0 (by decide) ?_
  refine lv_istore_n (lv' := [(3, .int 0), (0, .ref aG), (1, .long x1)]) hx hb dX1_rowsOf_1 rfl hl (by decide) rfl (fun ls hl => ?_)
  refine lv_iconst (v := 0) hx hb dX1_rowsOf_2 (by decide) ?_
  refine lv_istore (lv' := [(4, .int 0), (3, .int 0), (0, .ref aG), (1, .long x1)]) hx hb dX1_rowsOf_3 hl (by decide) rfl (fun ls hl => ?_)
  have LP5 : ∀ (n : Nat) (x1 : Int64) (x3 : Int32) (x4 : Int32) (ow3 : Int32) (ls : Array Slot), fX1_rowsOf_L5 n x1 x3 x4 gd gh = some ow3 → lv_has ls 5 [(0, .ref aG), (1, .long x1), (3, .int x3), (4, .int x4)] → (∀ (ls : Array Slot), lv_has ls 5 [(3, .int ow3)] → W p l e (headSpec wsX1_rowsOf rmX1_rowsOf).room s m args below meth c s.heap [] 0 0 Q (F0 m 36 ls [])) → W p l e (headSpec wsX1_rowsOf rmX1_rowsOf).room s m args below meth c s.heap [] 0 0 Q (F0 m 5 ls []) := by
    intro n
    induction n with
    | zero =>
      intro x1 x3 x4 ow3 ls h hl hk
      exact nomatch ((fX1_rowsOf_L5_z x1 x3 x4 gd gh).symm.trans h)
    | succ n ih =>
      intro x1 x3 x4 ow3 ls h hl hk
      rw [fX1_rowsOf_L5_s] at h
      refine lv_iload hx hb dX1_rowsOf_5 (lv_at hl 3 rfl) ?_
      refine lv_aload_n hx hb dX1_rowsOf_7 rfl (lv_at hl 0 rfl) ?_
      refine va_get (ci := 1) (v := .int gh) (C := RX1) (T := TX1) (N := 6) hx hb hts hinX1 hown hK hP 0 rfl rfl 2 (by decide) lk1 (fun _ h9 => h9) rfl dX1_rowsOf_8 ?_
      refine lv_icmp_ge (tgt := 36) hx hb dX1_rowsOf_11 (by decide) (fun g1 => ?_) (fun g1 => ?_)
      · rw [if_pos g1] at h
        cases h
        exact hk ls (lv_sub hl [2] rfl) 
      · rw [if_neg g1] at h
        refine lv_lload_n hx hb dX1_rowsOf_14 rfl (lv_at hl 1 rfl) ?_
        refine lv_aload_n hx hb dX1_rowsOf_15 rfl (lv_at hl 0 rfl) ?_
        refine lv_iload hx hb dX1_rowsOf_16 (lv_at hl 3 rfl) ?_
        obtain ⟨v2, hc3, h⟩ := sh_b1_e h
        refine sh_cVl (As := [.int x4]) (rest := [.long x1]) hfix (k_X1_row l D cI cJ cZ aG gw gd gh ga gl gr x4 v2 hc3) (cwV 1 hts gX1_rowsOf_X1_row rfl rfl rfl hdV_X1_row ⟨Nat.le_of_ble_eq_true rfl, Nat.le_of_ble_eq_true rfl⟩) hP hK [0] rfl 0 rfl rfl rfl hl.1 rfl (Nat.le_of_ble_eq_true rfl) dX1_rowsOf_18 ⟨Nat.zero_le _, Nat.zero_le _⟩ ?_
        refine lv_land hx hb dX1_rowsOf_21 ?_
        refine lv_lconst (v := 0) hx hb dX1_rowsOf_22 (by decide) ?_
        refine sh_leq (tgt := 30) hx hb dX1_rowsOf_23 dX1_rowsOf_24 (by decide) (fun g4 => ?_) (fun g4 => ?_)
        · rw [if_pos g4] at h
          refine lv_iinc (v := (x4 + 1)) (lv' := [(4, .int (x4 + 1)), (0, .ref aG), (1, .long x1), (3, .int x3)]) hx hb dX1_rowsOf_30 hl (k := 3) rfl rfl (by decide) rfl (fun ls hl => ?_)
          refine lv_goto (tgt := 5) hx hb dX1_rowsOf_33 (by decide) ?_
          exact ih x1 x3 (x4 + 1) ow3 ls h (lv_sub hl [1, 2, 3, 0] rfl)  hk
        · rw [if_neg g4] at h
          refine lv_iinc (v := (x3 + 1)) (lv' := [(3, .int (x3 + 1)), (0, .ref aG), (1, .long x1), (4, .int x4)]) hx hb dX1_rowsOf_27 hl (k := 2) rfl rfl (by decide) rfl (fun ls hl => ?_)
          refine lv_iinc (v := (x4 + 1)) (lv' := [(4, .int (x4 + 1)), (3, .int (x3 + 1)), (0, .ref aG), (1, .long x1)]) hx hb dX1_rowsOf_30 hl (k := 3) rfl rfl (by decide) rfl (fun ls hl => ?_)
          refine lv_goto (tgt := 5) hx hb dX1_rowsOf_33 (by decide) ?_
          exact ih x1 (x3 + 1) (x4 + 1) ow3 ls h (lv_sub hl [2, 3, 1, 0] rfl)  hk
  obtain ⟨w6, hc7, h⟩ := sh_b1_e h
  refine LP5 sh_fu x1 0 0 w6 ls hc7 (lv_sub hl [2, 3, 1, 0] rfl)  (fun ls hl  => ?_)
  refine lv_iload_n hx hb dX1_rowsOf_36 rfl (lv_at hl 0 rfl) ?_
  exact sh_roi hx hb hr hlocks hQ (Option.some.inj h) dX1_rowsOf_37
theorem hdV_X1_spread : yX1_spread.cls = RX1 ∧ yX1_spread.cls ≠ "java/lang/invoke/MethodHandle" ∧ yX1_spread.cls ≠ "java/lang/invoke/VarHandle" ∧ (parseMethodDescriptor yX1_spread.desc).map (fun d => d.parameters.length) = some 2 := by decide +kernel
abbrev rmX1_spread : Room := { frames := 0, cells := 0, slots := 0, locals := 0 }
set_option maxHeartbeats 4000000 in
set_option maxRecDepth 100000 in
theorem k_X1_spread (l : Launch) (D : va_G) (cI cJ cZ : ClassId) (aG : Nat) (gw : Int32) (gd : Int32) (gh : Int32) (ga : Int64) (gl : Int64) (gr : Int64) (x1 : Int64) (x3 : Int32) (o : Int64) (h : fX1_spread gd gl gr x1 x3 = some o) : Met l yX1_spread wsX1_spread rmX1_spread (sh_Pr D (sh_ty cI cJ cZ) [(aG, .inr (1, [.int gw, .int gd, .int gh, .long ga, .long gl, .long gr]))] [.ref aG, .long x1, .int x3]) (vp_Sl (fun z => z = o)) 0 0 (fun _ => False) := by
  refine Met.ofW (cc := cX1_spread) (maxL := 8) (ret := (some .long)) (by decide) rfl ?_
  intro p e s m args below meth c s₁ hB hml hv
  obtain ⟨hargs, hP, hK⟩ := hv
  have hx := hB.exec
  have hb := hB.bytes
  have hr := hB.returns
  have hts := atoms_spec (ws := wsX1_spread) hB.pre
  have hown : s.vm.findClass RX1 = some m.cls := findClass_of_methodNamed hB.named
  have hlocks := hB.notSynchronized
  have hfix : CallFix p m c cX1_spread 8 s args wsX1_spread RX1 := ⟨hx, hb, hml, hown, hts⟩
  have hinX1 : ∀ w ∈ wsX10, w ∈ wsX1_spread := by decide +kernel
  have lk1 := hts (.fieldLink RX1 32 "ShadeTree$Grid" "rightmost" "J") (by decide +kernel)
  have lk2 := hts (.constantLong RX1 47 (-1)) (by decide +kernel)
  have lk3 := hts (.fieldLink RX1 29 "ShadeTree$Grid" "leftmost" "J") (by decide +kernel)
  have lk4 := hts (.fieldLink RX1 19 "ShadeTree$Grid" "wide" "I") (by decide +kernel)
  rw [show entryFrame m args 8 = entryFrame m ([.ref aG, .long x1, .int x3] : List Value).toArray 8 by rw [hargs], lg_entry_eq]
  have hl := lv_entry ([.ref aG, .long x1, .int x3]) (n := 8) (Nat.le_of_ble_eq_true rfl)
  generalize (lg_sl ([.ref aG, .long x1, .int x3]) ++ List.replicate (8 - (lg_sl ([.ref aG, .long x1, .int x3])).length) Slot.unset).toArray = ls at hl ⊢
  have hl : lv_has ls 8 [(0, .ref aG), (1, .long x1), (3, .int x3)] := hl
  generalize hQ : MQ below (vp_Sl (fun z => z = o)) args s 0 0 (fun _ => False) = Q
  unfold fX1_spread at h
  refine lv_lload_n hx hb dX1_spread_0 rfl (lv_at hl 1 rfl) ?_
  refine lv_lload_n hx hb dX1_spread_1 rfl (lv_at hl 1 rfl) ?_
  refine lv_aload_n hx hb dX1_spread_2 rfl (lv_at hl 0 rfl) ?_
  refine va_get (ci := 1) (v := .long gr) (C := RX1) (T := TX1) (N := 6) hx hb hts hinX1 hown hK hP 0 rfl rfl 5 (by decide) lk1 (fun _ h9 => h9) rfl dX1_spread_3 ?_
  refine lv_ldc2 hx hb hown lk2 dX1_spread_6 ?_
  refine lv_lxor hx hb dX1_spread_9 ?_
  refine lv_land hx hb dX1_spread_10 ?_
  refine lv_iconst (v := 1) hx hb dX1_spread_11 (by decide) ?_
  refine lv_lshl (v := (sh_lsl (x1 &&& (gr ^^^ (-1))) 1)) hx hb dX1_spread_12 rfl ?_
  refine lv_lor hx hb dX1_spread_13 ?_
  refine lv_lload_n hx hb dX1_spread_14 rfl (lv_at hl 1 rfl) ?_
  refine lv_aload_n hx hb dX1_spread_15 rfl (lv_at hl 0 rfl) ?_
  refine va_get (ci := 1) (v := .long gl) (C := RX1) (T := TX1) (N := 6) hx hb hts hinX1 hown hK hP 0 rfl rfl 4 (by decide) lk3 (fun _ h9 => h9) rfl dX1_spread_16 ?_
  refine lv_ldc2 hx hb hown lk2 dX1_spread_19 ?_
  refine lv_lxor hx hb dX1_spread_22 ?_
  refine lv_land hx hb dX1_spread_23 ?_
  refine lv_iconst (v := 1) hx hb dX1_spread_24 (by decide) ?_
  refine lv_lushr (v := (sh_lsr (x1 &&& (gl ^^^ (-1))) 1)) hx hb dX1_spread_25 rfl ?_
  refine lv_lor hx hb dX1_spread_26 ?_
  obtain ⟨y1, ey1, h⟩ := sh_nm_e h
  rw [← ey1]
  refine lv_lstore (lv' := [(4, .long y1), (0, .ref aG), (1, .long x1), (3, .int x3)]) hx hb dX1_spread_27 hl (by decide) rfl (fun ls hl => ?_)
  refine lv_iload_n hx hb dX1_spread_29 rfl (lv_at hl 3 rfl) ?_
  refine lv_bipush (v := 8) hx hb dX1_spread_30 (by decide) ?_
  refine lv_icmp_ne (tgt := 40) hx hb dX1_spread_32 (by decide) (fun g2 => ?_) (fun g2 => ?_)
  · rw [if_neg g2] at h
    refine lv_lload_n hx hb dX1_spread_40 rfl (lv_at hl 2 rfl) ?_
    refine lv_lstore (lv' := [(6, .long x1), (4, .long y1), (0, .ref aG), (1, .long x1), (3, .int x3)]) hx hb dX1_spread_41 hl (by decide) rfl (fun ls hl => ?_)
    refine lv_lload hx hb dX1_spread_43 (lv_at hl 1 rfl) ?_
    refine lv_lload hx hb dX1_spread_45 (lv_at hl 0 rfl) ?_
    refine lv_aload_n hx hb dX1_spread_47 rfl (lv_at hl 2 rfl) ?_
    refine va_get (ci := 1) (v := .int gd) (C := RX1) (T := TX1) (N := 6) hx hb hts hinX1 hown hK hP 0 rfl rfl 1 (by decide) lk4 (fun _ h9 => h9) rfl dX1_spread_48 ?_
    refine lv_lshl (v := (sh_lsl x1 gd)) hx hb dX1_spread_51 rfl ?_
    refine lv_lor hx hb dX1_spread_52 ?_
    refine lv_lload hx hb dX1_spread_53 (lv_at hl 0 rfl) ?_
    refine lv_aload_n hx hb dX1_spread_55 rfl (lv_at hl 2 rfl) ?_
    refine va_get (ci := 1) (v := .int gd) (C := RX1) (T := TX1) (N := 6) hx hb hts hinX1 hown hK hP 0 rfl rfl 1 (by decide) lk4 (fun _ h9 => h9) rfl dX1_spread_56 ?_
    refine lv_lushr (v := (sh_lsr x1 gd)) hx hb dX1_spread_59 rfl ?_
    refine lv_lor hx hb dX1_spread_60 ?_
    exact sh_rol hx hb hr hlocks hQ (Option.some.inj h) dX1_spread_61
  · rw [if_pos g2] at h
    refine lv_lload hx hb dX1_spread_35 (lv_at hl 0 rfl) ?_
    refine lv_goto (tgt := 41) hx hb dX1_spread_37 (by decide) ?_
    refine lv_lstore (lv' := [(6, .long y1), (4, .long y1), (0, .ref aG), (1, .long x1), (3, .int x3)]) hx hb dX1_spread_41 hl (by decide) rfl (fun ls hl => ?_)
    refine lv_lload hx hb dX1_spread_43 (lv_at hl 1 rfl) ?_
    refine lv_lload hx hb dX1_spread_45 (lv_at hl 0 rfl) ?_
    refine lv_aload_n hx hb dX1_spread_47 rfl (lv_at hl 2 rfl) ?_
    refine va_get (ci := 1) (v := .int gd) (C := RX1) (T := TX1) (N := 6) hx hb hts hinX1 hown hK hP 0 rfl rfl 1 (by decide) lk4 (fun _ h9 => h9) rfl dX1_spread_48 ?_
    refine lv_lshl (v := (sh_lsl y1 gd)) hx hb dX1_spread_51 rfl ?_
    refine lv_lor hx hb dX1_spread_52 ?_
    refine lv_lload hx hb dX1_spread_53 (lv_at hl 0 rfl) ?_
    refine lv_aload_n hx hb dX1_spread_55 rfl (lv_at hl 2 rfl) ?_
    refine va_get (ci := 1) (v := .int gd) (C := RX1) (T := TX1) (N := 6) hx hb hts hinX1 hown hK hP 0 rfl rfl 1 (by decide) lk4 (fun _ h9 => h9) rfl dX1_spread_56 ?_
    refine lv_lushr (v := (sh_lsr y1 gd)) hx hb dX1_spread_59 rfl ?_
    refine lv_lor hx hb dX1_spread_60 ?_
    exact sh_rol hx hb hr hlocks hQ (Option.some.inj h) dX1_spread_61
