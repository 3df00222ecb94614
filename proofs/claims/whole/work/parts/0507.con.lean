theorem hdS_J6_bitCount_0f7a4 : yJ6_bitCount_0f7a4.cls ≠ "java/lang/invoke/MethodHandle" ∧ yJ6_bitCount_0f7a4.cls ≠ "java/lang/invoke/VarHandle" ∧ (parseMethodDescriptor yJ6_bitCount_0f7a4.desc).map (fun d => d.parameters.length) = some 1 := by decide +kernel
abbrev rmJ6_bitCount_0f7a4 : Room := { frames := 0, cells := 0, slots := 0, locals := 0 }
set_option maxHeartbeats 4000000 in
set_option maxRecDepth 100000 in
theorem k_J6_bitCount_0f7a4 (l : Launch) (D : va_G) (cI cJ cZ : ClassId) (x0 : Int32) (o : Int32) (h : fJ6_bitCount_0f7a4 x0 = some o) : Met l yJ6_bitCount_0f7a4 wsJ6_bitCount_0f7a4 rmJ6_bitCount_0f7a4 (sh_Pr D (sh_ty cI cJ cZ) [] [.int x0]) (vp_Si (fun z => z = o)) 0 0 (fun _ => False) := by
  refine Met.ofW (cc := cJ6_bitCount_0f7a4) (maxL := 1) (ret := (some .int)) (by decide) rfl ?_
  intro p e s m args below meth c s₁ hB hml hv
  obtain ⟨hargs, hP, hK⟩ := hv
  have hx := hB.exec
  have hb := hB.bytes
  have hr := hB.returns
  have hts := atoms_spec (ws := wsJ6_bitCount_0f7a4) hB.pre
  have hown : s.vm.findClass RJ6 = some m.cls := findClass_of_methodNamed hB.named
  have hlocks := hB.notSynchronized
  have hfix : CallFix p m c cJ6_bitCount_0f7a4 1 s args wsJ6_bitCount_0f7a4 RJ6 := ⟨hx, hb, hml, hown, hts⟩
  have lk1 := hts (.constant RJ6 265 (1431655765)) (by decide +kernel)
  have lk2 := hts (.constant RJ6 266 (858993459)) (by decide +kernel)
  have lk3 := hts (.constant RJ6 267 (252645135)) (by decide +kernel)
  rw [show entryFrame m args 1 = entryFrame m ([.int x0] : List Value).toArray 1 by rw [hargs], lg_entry_eq]
  have hl := lv_entry ([.int x0]) (n := 1) (Nat.le_of_ble_eq_true rfl)
  generalize (lg_sl ([.int x0]) ++ List.replicate (1 - (lg_sl ([.int x0])).length) Slot.unset).toArray = ls at hl ⊢
  have hl : lv_has ls 1 [(0, .int x0)] := hl
  generalize hQ : MQ below (vp_Si (fun z => z = o)) args s 0 0 (fun _ => False) = Q
  unfold fJ6_bitCount_0f7a4 at h
  refine lv_iload_n hx hb dJ6_bitCount_0f7a4_0 rfl (lv_at hl 0 rfl) ?_
  refine lv_iload_n hx hb dJ6_bitCount_0f7a4_1 rfl (lv_at hl 0 rfl) ?_
  refine lv_iconst (v := 1) hx hb dJ6_bitCount_0f7a4_2 (by decide) ?_
  refine lv_iushr (v := (sh_isr x0 1)) hx hb dJ6_bitCount_0f7a4_3 rfl ?_
  refine lv_ldcw hx hb hown lk1 dJ6_bitCount_0f7a4_4 ?_
  refine lv_iand hx hb dJ6_bitCount_0f7a4_7 ?_
  refine lv_isub hx hb dJ6_bitCount_0f7a4_8 ?_
  refine lv_istore_n (lv' := [(0, .int (x0 - ((sh_isr x0 1) &&& 1431655765)))]) hx hb dJ6_bitCount_0f7a4_9 rfl hl (by decide) rfl (fun ls hl => ?_)
  refine lv_iload_n hx hb dJ6_bitCount_0f7a4_10 rfl (lv_at hl 0 rfl) ?_
  refine lv_ldcw hx hb hown lk2 dJ6_bitCount_0f7a4_11 ?_
  refine lv_iand hx hb dJ6_bitCount_0f7a4_14 ?_
  refine lv_iload_n hx hb dJ6_bitCount_0f7a4_15 rfl (lv_at hl 0 rfl) ?_
  refine lv_iconst (v := 2) hx hb dJ6_bitCount_0f7a4_16 (by decide) ?_
  refine lv_iushr (v := (sh_isr (x0 - ((sh_isr x0 1) &&& 1431655765)) 2)) hx hb dJ6_bitCount_0f7a4_17 rfl ?_
  refine lv_ldcw hx hb hown lk2 dJ6_bitCount_0f7a4_18 ?_
  refine lv_iand hx hb dJ6_bitCount_0f7a4_21 ?_
  refine lv_iadd hx hb dJ6_bitCount_0f7a4_22 ?_
  obtain ⟨y1, ey1, h⟩ := sh_nm_e h
  rw [← ey1]
  refine lv_istore_n (lv' := [(0, .int y1)]) hx hb dJ6_bitCount_0f7a4_23 rfl hl (by decide) rfl (fun ls hl => ?_)
  refine lv_iload_n hx hb dJ6_bitCount_0f7a4_24 rfl (lv_at hl 0 rfl) ?_
  refine lv_iload_n hx hb dJ6_bitCount_0f7a4_25 rfl (lv_at hl 0 rfl) ?_
  refine lv_iconst (v := 4) hx hb dJ6_bitCount_0f7a4_26 (by decide) ?_
  refine lv_iushr (v := (sh_isr y1 4)) hx hb dJ6_bitCount_0f7a4_27 rfl ?_
  refine lv_iadd hx hb dJ6_bitCount_0f7a4_28 ?_
  refine lv_ldcw hx hb hown lk3 dJ6_bitCount_0f7a4_29 ?_
  refine lv_iand hx hb dJ6_bitCount_0f7a4_32 ?_
  refine lv_istore_n (lv' := [(0, .int ((y1 + (sh_isr y1 4)) &&& 252645135))]) hx hb dJ6_bitCount_0f7a4_33 rfl hl (by decide) rfl (fun ls hl => ?_)
  refine lv_iload_n hx hb dJ6_bitCount_0f7a4_34 rfl (lv_at hl 0 rfl) ?_
  refine lv_iload_n hx hb dJ6_bitCount_0f7a4_35 rfl (lv_at hl 0 rfl) ?_
  refine lv_bipush (v := 8) hx hb dJ6_bitCount_0f7a4_36 (by decide) ?_
  refine lv_iushr (v := (sh_isr ((y1 + (sh_isr y1 4)) &&& 252645135) 8)) hx hb dJ6_bitCount_0f7a4_38 rfl ?_
  refine lv_iadd hx hb dJ6_bitCount_0f7a4_39 ?_
  obtain ⟨y2, ey2, h⟩ := sh_nm_e h
  rw [← ey2]
  refine lv_istore_n (lv' := [(0, .int y2)]) hx hb dJ6_bitCount_0f7a4_40 rfl hl (by decide) rfl (fun ls hl => ?_)
  refine lv_iload_n hx hb dJ6_bitCount_0f7a4_41 rfl (lv_at hl 0 rfl) ?_
  refine lv_iload_n hx hb dJ6_bitCount_0f7a4_42 rfl (lv_at hl 0 rfl) ?_
  refine lv_bipush (v := 16) hx hb dJ6_bitCount_0f7a4_43 (by decide) ?_
  refine lv_iushr (v := (sh_isr y2 16)) hx hb dJ6_bitCount_0f7a4_45 rfl ?_
  refine lv_iadd hx hb dJ6_bitCount_0f7a4_46 ?_
  refine lv_istore_n (lv' := [(0, .int (y2 + (sh_isr y2 16)))]) hx hb dJ6_bitCount_0f7a4_47 rfl hl (by decide) rfl (fun ls hl => ?_)
  refine lv_iload_n hx hb dJ6_bitCount_0f7a4_48 rfl (lv_at hl 0 rfl) ?_
  refine lv_bipush (v := 63) hx hb dJ6_bitCount_0f7a4_49 (by decide) ?_
  refine lv_iand hx hb dJ6_bitCount_0f7a4_51 ?_
  exact sh_roi hx hb hr hlocks hQ (Option.some.inj h) dJ6_bitCount_0f7a4_52
theorem hdS_X7_factorial : yX7_factorial.cls ≠ "java/lang/invoke/MethodHandle" ∧ yX7_factorial.cls ≠ "java/lang/invoke/VarHandle" ∧ (parseMethodDescriptor yX7_factorial.desc).map (fun d => d.parameters.length) = some 1 := by decide +kernel
abbrev rmX7_factorial : Room := { frames := 0, cells := 0, slots := 0, locals := 0 }
set_option maxHeartbeats 4000000 in
set_option maxRecDepth 100000 in
theorem k_X7_factorial (l : Launch) (D : va_G) (cI cJ cZ : ClassId) (x0 : Int32) (o : Int32) (h : fX7_factorial x0 = some o) : Met l yX7_factorial wsX7_factorial rmX7_factorial (sh_Pr D (sh_ty cI cJ cZ) [] [.int x0]) (vp_Si (fun z => z = o)) 0 0 (fun _ => False) := by
  refine Met.ofW (cc := cX7_factorial) (maxL := 3) (ret := (some .int)) (by decide) rfl ?_
  intro p e s m args below meth c s₁ hB hml hv
  obtain ⟨hargs, hP, hK⟩ := hv
  have hx := hB.exec
  have hb := hB.bytes
  have hr := hB.returns
  have hts := atoms_spec (ws := wsX7_factorial) hB.pre
  have hown : s.vm.findClass RX7 = some m.cls := findClass_of_methodNamed hB.named
  have hlocks := hB.notSynchronized
  have hfix : CallFix p m c cX7_factorial 3 s args wsX7_factorial RX7 := ⟨hx, hb, hml, hown, hts⟩
  rw [show entryFrame m args 3 = entryFrame m ([.int x0] : List Value).toArray 3 by rw [hargs], lg_entry_eq]
  have hl := lv_entry ([.int x0]) (n := 3) (Nat.le_of_ble_eq_true rfl)
  generalize (lg_sl ([.int x0]) ++ List.replicate (3 - (lg_sl ([.int x0])).length) Slot.unset).toArray = ls at hl ⊢
  have hl : lv_has ls 3 [(0, .int x0)] := hl
  generalize hQ : MQ below (vp_Si (fun z => z = o)) args s 0 0 (fun _ => False) = Q
  unfold fX7_factorial at h
  refine lv_iconst (v := 1) hx hb dX7_factorial_0 (by decide) ?_
  refine lv_istore_n (lv' := [(1, .int 1), (0, .int x0)]) hx hb dX7_factorial_1 rfl hl (by decide) rfl (fun ls hl => ?_)
  refine lv_iconst (v := 2) hx hb dX7_factorial_2 (by decide) ?_
  refine lv_istore_n (lv' := [(2, .int 2), (1, .int 1), (0, .int x0)]) hx hb dX7_factorial_3 rfl hl (by decide) rfl (fun ls hl => ?_)
  have LP3 : ∀ (n : Nat) (x0 : Int32) (x1 : Int32) (x2 : Int32) (ow1 : Int32) (ls : Array Slot), fX7_factorial_L4 n x0 x1 x2 = some ow1 → lv_has ls 3 [(0, .int x0), (1, .int x1), (2, .int x2)] → (∀ (ls : Array Slot), lv_has ls 3 [(1, .int ow1)] → W p l e (headSpec wsX7_factorial rmX7_factorial).room s m args below meth c s.heap [] 0 0 Q (F0 m 25 ls [])) → W p l e (headSpec wsX7_factorial rmX7_factorial).room s m args below meth c s.heap [] 0 0 Q (F0 m 4 ls []) := by
    intro n
    induction n with
    | zero =>
      intro x0 x1 x2 ow1 ls h hl hk
      exact nomatch ((fX7_factorial_L4_z x0 x1 x2).symm.trans h)
    | succ n ih =>
      intro x0 x1 x2 ow1 ls h hl hk
      rw [fX7_factorial_L4_s] at h
      refine lv_iload_n hx hb dX7_factorial_4 rfl (lv_at hl 2 rfl) ?_
      refine lv_iload_n hx hb dX7_factorial_5 rfl (lv_at hl 0 rfl) ?_
      refine lv_icmp_gt (tgt := 25) hx hb dX7_factorial_6 (by decide) (fun g1 => ?_) (fun g1 => ?_)
      · rw [if_pos g1] at h
        cases h
        exact hk ls (lv_sub hl [1] rfl) 
      · rw [if_neg g1] at h
        refine lv_iload_n hx hb dX7_factorial_9 rfl (lv_at hl 2 rfl) ?_
        refine lv_bipush (v := 6) hx hb dX7_factorial_10 (by decide) ?_
        refine lv_icmp_gt (tgt := 25) hx hb dX7_factorial_12 (by decide) (fun g2 => ?_) (fun g2 => ?_)
        · rw [if_pos g2] at h
          cases h
          exact hk ls (lv_sub hl [1] rfl) 
        · rw [if_neg g2] at h
          refine lv_iload_n hx hb dX7_factorial_15 rfl (lv_at hl 1 rfl) ?_
          refine lv_iload_n hx hb dX7_factorial_16 rfl (lv_at hl 2 rfl) ?_
          refine lv_imul hx hb dX7_factorial_17 ?_
          refine lv_istore_n (lv' := [(1, .int (x1 * x2)), (0, .int x0), (2, .int x2)]) hx hb dX7_factorial_18 rfl hl (by decide) rfl (fun ls hl => ?_)
          refine lv_iinc (v := (x2 + 1)) (lv' := [(2, .int (x2 + 1)), (1, .int (x1 * x2)), (0, .int x0)]) hx hb dX7_factorial_19 hl (k := 2) rfl rfl (by decide) rfl (fun ls hl => ?_)
          refine lv_goto (tgt := 4) hx hb dX7_factorial_22 (by decide) ?_
          exact ih x0 (x1 * x2) (x2 + 1) ow1 ls h (lv_sub hl [2, 1, 0] rfl)  hk
  obtain ⟨w4, hc5, h⟩ := sh_b1_e h
  refine LP3 sh_fu x0 1 2 w4 ls hc5 (lv_sub hl [2, 1, 0] rfl)  (fun ls hl  => ?_)
  refine lv_iload_n hx hb dX7_factorial_25 rfl (lv_at hl 0 rfl) ?_
  exact sh_roi hx hb hr hlocks hQ (Option.some.inj h) dX7_factorial_26
theorem hdV_X7_partsOfRows : yX7_partsOfRows.cls = RX7 ∧ yX7_partsOfRows.cls ≠ "java/lang/invoke/MethodHandle" ∧ yX7_partsOfRows.cls ≠ "java/lang/invoke/VarHandle" ∧ (parseMethodDescriptor yX7_partsOfRows.desc).map (fun d => d.parameters.length) = some 2 := by decide +kernel
abbrev rmX7_partsOfRows : Room := { frames := 3, cells := 0, slots := 0, locals := 83 }
set_option maxHeartbeats 4000000 in
set_option maxRecDepth 100000 in
theorem k_X7_partsOfRows (l : Launch) (D : va_G) (cI cJ cZ : ClassId) (q : Nat → Nat) (I : Nat → Int32) (J : Nat → Int64) (A : Nat → Nat → Int32) (B : Nat → Nat → Int64) (x1 : Int64) (x3 : Int32) (o : Int32) (h : fX7_partsOfRows I J x1 x3 = some o) : Met l yX7_partsOfRows wsX7_partsOfRows rmX7_partsOfRows (sh_Pr D (sh_ty cI cJ cZ) (sh_w7 q cI cJ cZ I J A B) [.ref (q 0), .long x1, .int x3]) (vp_Si (fun z => z = o)) 0 0 (fun _ => False) := by
  refine Met.ofW (cc := cX7_partsOfRows) (maxL := 4) (ret := (some .int)) (by decide) rfl ?_
  intro p e s m args below meth c s₁ hB hml hv
  obtain ⟨hargs, hP, hK⟩ := hv
  have hx := hB.exec
  have hb := hB.bytes
  have hr := hB.returns
  have hts := atoms_spec (ws := wsX7_partsOfRows) hB.pre
  have hown : s.vm.findClass RX7 = some m.cls := findClass_of_methodNamed hB.named
  have hlocks := hB.notSynchronized
  have hfix : CallFix p m c cX7_partsOfRows 4 s args wsX7_partsOfRows RX7 := ⟨hx, hb, hml, hown, hts⟩
  have hinX7 : ∀ w ∈ wsX70, w ∈ wsX7_partsOfRows := by decide +kernel
  have lk1 := hts (.fieldLink RX7 19 "ShadeTree" "grid" "LShadeTree$Grid;") (by decide +kernel)
  rw [show entryFrame m args 4 = entryFrame m ([.ref (q 0), .long x1, .int x3] : List Value).toArray 4 by rw [hargs], lg_entry_eq]
  have hl := lv_entry ([.ref (q 0), .long x1, .int x3]) (n := 4) (Nat.le_of_ble_eq_true rfl)
  generalize (lg_sl ([.ref (q 0), .long x1, .int x3]) ++ List.replicate (4 - (lg_sl ([.ref (q 0), .long x1, .int x3])).length) Slot.unset).toArray = ls at hl ⊢
  have hl : lv_has ls 4 [(0, .ref (q 0)), (1, .long x1), (3, .int x3)] := hl
  generalize hQ : MQ below (vp_Si (fun z => z = o)) args s 0 0 (fun _ => False) = Q
  unfold fX7_partsOfRows at h
  refine lv_aload_n hx hb dX7_partsOfRows_0 rfl (lv_at hl 0 rfl) ?_
  refine va_get (ci := 7) (v := .ref (q 3)) (C := RX7) (T := TX7) (N := 10) hx hb hts hinX7 hown hK hP 0 rfl rfl 1 (by decide) lk1 (fun _ h9 => h9) rfl dX7_partsOfRows_1 ?_
  refine lv_lload_n hx hb dX7_partsOfRows_4 rfl (lv_at hl 1 rfl) ?_
  refine lv_aload_n hx hb dX7_partsOfRows_5 rfl (lv_at hl 0 rfl) ?_
  refine va_get (ci := 7) (v := .ref (q 3)) (C := RX7) (T := TX7) (N := 10) hx hb hts hinX7 hown hK hP 0 rfl rfl 1 (by decide) lk1 (fun _ h9 => h9) rfl dX7_partsOfRows_6 ?_
  refine lv_iload_n hx hb dX7_partsOfRows_9 rfl (lv_at hl 2 rfl) ?_
  obtain ⟨v1, hc2, h⟩ := sh_b1_e h
  refine sh_cVl (As := [.int x3]) (rest := [.long x1, .ref (q 3)]) hfix (k_X1_rows l D cI cJ cZ (q 3) (I 1) (I 2) (I 3) (J 0) (J 1) (J 2) x3 v1 hc2) (cwV 1 hts gX7_partsOfRows_X1_rows rfl rfl rfl hdV_X1_rows ⟨Nat.le_of_ble_eq_true rfl, Nat.le_of_ble_eq_true rfl⟩) hP hK [3] rfl 3 rfl rfl rfl hl.1 rfl (Nat.le_of_ble_eq_true rfl) dX7_partsOfRows_10 ⟨Nat.zero_le _, Nat.zero_le _⟩ ?_
  refine lv_land hx hb dX7_partsOfRows_13 ?_
  refine lv_aload_n hx hb dX7_partsOfRows_14 rfl (lv_at hl 0 rfl) ?_
  refine va_get (ci := 7) (v := .ref (q 3)) (C := RX7) (T := TX7) (N := 10) hx hb hts hinX7 hown hK hP 0 rfl rfl 1 (by decide) lk1 (fun _ h9 => h9) rfl dX7_partsOfRows_15 ?_
  obtain ⟨v3, hc4, h⟩ := sh_b1_e h
  refine sh_cVi (As := []) (rest := [.long (x1 &&& v1), .ref (q 3)]) hfix (k_X1_way l D cI cJ cZ (q 3) (I 1) (I 2) (I 3) (J 0) (J 1) (J 2) v3 hc4) (cwV 0 hts gX7_partsOfRows_X1_way rfl rfl rfl hdV_X1_way ⟨Nat.le_of_ble_eq_true rfl, Nat.le_of_ble_eq_true rfl⟩) hP hK [3] rfl 3 rfl rfl rfl hl.1 rfl (Nat.le_of_ble_eq_true rfl) dX7_partsOfRows_18 ⟨Nat.zero_le _, Nat.zero_le _⟩ ?_
  obtain ⟨v5, hc6, h⟩ := sh_b1_e h
  refine sh_cVi (As := [.long (x1 &&& v1), .int v3]) (rest := []) hfix (k_X1_countParts l D cI cJ cZ (q 3) (I 1) (I 2) (I 3) (J 0) (J 1) (J 2) (x1 &&& v1) v3 v5 hc6) (cwV 2 hts gX7_partsOfRows_X1_countParts rfl rfl rfl hdV_X1_countParts ⟨Nat.le_of_ble_eq_true rfl, Nat.le_of_ble_eq_true rfl⟩) hP hK [3] rfl 3 rfl rfl rfl hl.1 rfl (Nat.le_of_ble_eq_true rfl) dX7_partsOfRows_21 ⟨Nat.zero_le _, Nat.zero_le _⟩ ?_
  exact sh_roi hx hb hr hlocks hQ (Option.some.inj h) dX7_partsOfRows_24
theorem hdV_X7_sharedOut : yX7_sharedOut.cls = RX7 ∧ yX7_sharedOut.cls ≠ "java/lang/invoke/MethodHandle" ∧ yX7_sharedOut.cls ≠ "java/lang/invoke/VarHandle" ∧ (parseMethodDescriptor yX7_sharedOut.desc).map (fun d => d.parameters.length) = some 2 := by decide +kernel
abbrev rmX7_sharedOut : Room := { frames := 4, cells := 0, slots := 0, locals := 106 }
set_option maxHeartbeats 4000000 in
set_option maxRecDepth 100000 in
theorem k_X7_sharedOut (l : Launch) (D : va_G) (cI cJ cZ : ClassId) (q : Nat → Nat) (I : Nat → Int32) (J : Nat → Int64) (A : Nat → Nat → Int32) (B : Nat → Nat → Int64) (x1 : Int64) (x3 : Int32) (o : Int32) (h : fX7_sharedOut I J x1 x3 = some o) : Met l yX7_sharedOut wsX7_sharedOut rmX7_sharedOut (sh_Pr D (sh_ty cI cJ cZ) (sh_w7 q cI cJ cZ I J A B) [.ref (q 0), .long x1, .int x3]) (vp_Si (fun z => z = o)) 0 0 (fun _ => False) := by
  refine Met.ofW (cc := cX7_sharedOut) (maxL := 10) (ret := (some .int)) (by decide) rfl ?_
  intro p e s m args below meth c s₁ hB hml hv
  obtain ⟨hargs, hP, hK⟩ := hv
  have hx := hB.exec
  have hb := hB.bytes
  have hr := hB.returns
  have hts := atoms_spec (ws := wsX7_sharedOut) hB.pre
  have hown : s.vm.findClass RX7 = some m.cls := findClass_of_methodNamed hB.named
  have hlocks := hB.notSynchronized
  have hfix : CallFix p m c cX7_sharedOut 10 s args wsX7_sharedOut RX7 := ⟨hx, hb, hml, hown, hts⟩
  have hinX7 : ∀ w ∈ wsX70, w ∈ wsX7_sharedOut := by decide +kernel
  have lk1 := hts (.fieldLink RX7 19 "ShadeTree" "grid" "LShadeTree$Grid;") (by decide +kernel)
  rw [show entryFrame m args 10 = entryFrame m ([.ref (q 0), .long x1, .int x3] : List Value).toArray 10 by rw [hargs], lg_entry_eq]
  have hl := lv_entry ([.ref (q 0), .long x1, .int x3]) (n := 10) (Nat.le_of_ble_eq_true rfl)
  generalize (lg_sl ([.ref (q 0), .long x1, .int x3]) ++ List.replicate (10 - (lg_sl ([.ref (q 0), .long x1, .int x3])).length) Slot.unset).toArray = ls at hl ⊢
  have hl : lv_has ls 10 [(0, .ref (q 0)), (1, .long x1), (3, .int x3)] := hl
  generalize hQ : MQ below (vp_Si (fun z => z = o)) args s 0 0 (fun _ => False) = Q
  unfold fX7_sharedOut at h
  refine lv_aload_n hx hb dX7_sharedOut_0 rfl (lv_at hl 0 rfl) ?_
  refine va_get (ci := 7) (v := .ref (q 3)) (C := RX7) (T := TX7) (N := 10) hx hb hts hinX7 hown hK hP 0 rfl rfl 1 (by decide) lk1 (fun _ h9 => h9) rfl dX7_sharedOut_1 ?_
  obtain ⟨v1, hc2, h⟩ := sh_b1_e h
  refine sh_cVi (As := []) (rest := []) hfix (k_X1_high l D cI cJ cZ (q 3) (I 1) (I 2) (I 3) (J 0) (J 1) (J 2) v1 hc2) (cwV 0 hts gX7_sharedOut_X1_high rfl rfl rfl hdV_X1_high ⟨Nat.le_of_ble_eq_true rfl, Nat.le_of_ble_eq_true rfl⟩) hP hK [3] rfl 3 rfl rfl rfl hl.1 rfl (Nat.le_of_ble_eq_true rfl) dX7_sharedOut_4 ⟨Nat.zero_le _, Nat.zero_le _⟩ ?_
  refine lv_istore (lv' := [(4, .int v1), (0, .ref (q 0)), (1, .long x1), (3, .int x3)]) hx hb dX7_sharedOut_7 hl (by decide) rfl (fun ls hl => ?_)
  refine lv_iconst (v := 0) hx hb dX7_sharedOut_9 (by decide) ?_
  refine lv_istore (lv' := [(5, .int 0), (4, .int v1), (0, .ref (q 0)), (1, .long x1), (3, .int x3)]) hx hb dX7_sharedOut_10 hl (by decide) rfl (fun ls hl => ?_)
  refine lv_iconst (v := 0) hx hb dX7_sharedOut_12 (by decide) ?_
  refine lv_istore (lv' := [(6, .int 0), (5, .int 0), (4, .int v1), (0, .ref (q 0)), (1, .long x1), (3, .int x3)]) hx hb dX7_sharedOut_13 hl (by decide) rfl (fun ls hl => ?_)
  have LP15 : ∀ (n : Nat) (x1 : Int64) (x3 : Int32) (x4 : Int32) (x5 : Int32) (x6 : Int32) (ow5 : Int32) (ls : Array Slot), fX7_sharedOut_L15 n x1 x3 x4 x5 x6 I J = some ow5 → lv_has ls 10 [(0, .ref (q 0)), (1, .long x1), (3, .int x3), (4, .int x4), (5, .int x5), (6, .int x6)] → (∀ (ls : Array Slot), lv_has ls 10 [(5, .int ow5)] → W p l e (headSpec wsX7_sharedOut rmX7_sharedOut).room s m args below meth c s.heap [] 0 0 Q (F0 m 95 ls [])) → W p l e (headSpec wsX7_sharedOut rmX7_sharedOut).room s m args below meth c s.heap [] 0 0 Q (F0 m 15 ls []) := by
    intro n
    induction n with
    | zero =>
      intro x1 x3 x4 x5 x6 ow5 ls h hl hk
      exact nomatch ((fX7_sharedOut_L15_z x1 x3 x4 x5 x6 I J).symm.trans h)
    | succ n ih =>
      intro x1 x3 x4 x5 x6 ow5 ls h hl hk
      rw [fX7_sharedOut_L15_s] at h
      refine lv_iload hx hb dX7_sharedOut_15 (lv_at hl 5 rfl) ?_
      refine lv_iconst (v := 1) hx hb dX7_sharedOut_17 (by decide) ?_
      refine lv_iload hx hb dX7_sharedOut_18 (lv_at hl 3 rfl) ?_
      refine lv_ishl hx hb dX7_sharedOut_20 ?_
      refine lv_icmp_ge (tgt := 95) hx hb dX7_sharedOut_21 (by decide) (fun g3 => ?_) (fun g3 => ?_)
      · rw [if_pos g3] at h
        cases h
        exact hk ls (lv_sub hl [4] rfl) 
      · rw [if_neg g3] at h
        refine lv_iload hx hb dX7_sharedOut_24 (lv_at hl 5 rfl) ?_
        refine lv_iload_n hx hb dX7_sharedOut_26 rfl (lv_at hl 2 rfl) ?_
        refine lv_ishr hx hb dX7_sharedOut_27 ?_
        refine lv_iconst (v := 1) hx hb dX7_sharedOut_28 (by decide) ?_
        refine lv_iand hx hb dX7_sharedOut_29 ?_
        refine lv_if_ne (tgt := 89) hx hb dX7_sharedOut_30 (by decide) (fun g4 => ?_) (fun g4 => ?_)
        · rw [if_neg g4] at h
          refine lv_iinc (v := (x6 + 1)) (lv' := [(6, .int (x6 + 1)), (0, .ref (q 0)), (1, .long x1), (3, .int x3), (4, .int x4), (5, .int x5)]) hx hb dX7_sharedOut_89 hl (k := 5) rfl rfl (by decide) rfl (fun ls hl => ?_)
          refine lv_goto (tgt := 15) hx hb dX7_sharedOut_92 (by decide) ?_
          exact ih x1 x3 x4 x5 (x6 + 1) ow5 ls h (lv_sub hl [1, 2, 3, 4, 5, 0] rfl)  hk
        · rw [if_pos g4] at h
          refine lv_iload hx hb dX7_sharedOut_33 (lv_at hl 5 rfl) ?_
          obtain ⟨v5, hc6, h⟩ := sh_b1_e h
          refine sh_cSi (As := [.int x6]) (rest := []) hfix (k_J6_bitCount_0f7a4 l D cI cJ cZ x6 v5 hc6) (va_cwS 1 hts gX7_sharedOut_J6_bitCount_0f7a4 rfl rfl rfl hdS_J6_bitCount_0f7a4 ⟨Nat.le_of_ble_eq_true rfl, Nat.le_of_ble_eq_true rfl⟩) hP hK [] rfl rfl hl.1 rfl (Nat.le_of_ble_eq_true rfl) dX7_sharedOut_35 ⟨Nat.zero_le _, Nat.zero_le _⟩ ?_
          refine lv_istore (lv' := [(7, .int v5), (0, .ref (q 0)), (1, .long x1), (3, .int x3), (4, .int x4), (5, .int x5), (6, .int x6)]) hx hb dX7_sharedOut_38 hl (by decide) rfl (fun ls hl => ?_)
          refine lv_iload hx hb dX7_sharedOut_40 (lv_at hl 0 rfl) ?_
          obtain ⟨v7, hc8, h⟩ := sh_b1_e h
          refine sh_cSi (As := [.int v5]) (rest := []) hfix (k_X7_factorial l D cI cJ cZ v5 v7 hc8) (va_cwS 1 hts gX7_sharedOut_X7_factorial rfl rfl rfl hdS_X7_factorial ⟨Nat.le_of_ble_eq_true rfl, Nat.le_of_ble_eq_true rfl⟩) hP hK [] rfl rfl hl.1 rfl (Nat.le_of_ble_eq_true rfl) dX7_sharedOut_42 ⟨Nat.zero_le _, Nat.zero_le _⟩ ?_
          refine lv_iload hx hb dX7_sharedOut_45 (lv_at hl 4 rfl) ?_
          refine lv_iconst (v := 1) hx hb dX7_sharedOut_47 (by decide) ?_
          refine lv_isub hx hb dX7_sharedOut_48 ?_
          refine lv_iload hx hb dX7_sharedOut_49 (lv_at hl 0 rfl) ?_
          refine lv_isub hx hb dX7_sharedOut_51 ?_
          obtain ⟨v9, hc10, h⟩ := sh_b1_e h
          refine sh_cSi (As := [.int ((x4 - 1) - v5)]) (rest := [.int v7]) hfix (k_X7_factorial l D cI cJ cZ ((x4 - 1) - v5) v9 hc10) (va_cwS 1 hts gX7_sharedOut_X7_factorial rfl rfl rfl hdS_X7_factorial ⟨Nat.le_of_ble_eq_true rfl, Nat.le_of_ble_eq_true rfl⟩) hP hK [] rfl rfl hl.1 rfl (Nat.le_of_ble_eq_true rfl) dX7_sharedOut_52 ⟨Nat.zero_le _, Nat.zero_le _⟩ ?_
          refine lv_imul hx hb dX7_sharedOut_55 ?_
          refine lv_istore (lv' := [(8, .int (v7 * v9)), (7, .int v5), (0, .ref (q 0)), (1, .long x1), (3, .int x3), (4, .int x4), (5, .int x5), (6, .int x6)]) hx hb dX7_sharedOut_56 hl (by decide) rfl (fun ls hl => ?_)
          refine lv_aload_n hx hb dX7_sharedOut_58 rfl (lv_at hl 2 rfl) ?_
          refine lv_lload_n hx hb dX7_sharedOut_59 rfl (lv_at hl 3 rfl) ?_
          refine lv_iload hx hb dX7_sharedOut_60 (lv_at hl 7 rfl) ?_
          refine lv_iconst (v := 1) hx hb dX7_sharedOut_62 (by decide) ?_
          refine lv_iload_n hx hb dX7_sharedOut_63 rfl (lv_at hl 4 rfl) ?_
          refine lv_ishl hx hb dX7_sharedOut_64 ?_
          refine lv_ior hx hb dX7_sharedOut_65 ?_
          obtain ⟨v11, hc12, h⟩ := sh_b1_e h
          refine sh_cVi (As := [.long x1, .int (x6 ||| ((1 : Int32) <<< (x3 &&& 31)))]) (rest := []) hfix (k_X7_partsOfRows l D cI cJ cZ q I J A B x1 (x6 ||| ((1 : Int32) <<< (x3 &&& 31))) v11 hc12) (cwV 2 hts gX7_sharedOut_X7_partsOfRows rfl rfl rfl hdV_X7_partsOfRows ⟨Nat.le_of_ble_eq_true rfl, Nat.le_of_ble_eq_true rfl⟩) hP hK [0, 1, 2, 3, 4, 5, 6, 7, 8, 9, 10, 11, 12, 13, 14, 15, 16, 17, 18, 19, 20, 21, 22] rfl 0 rfl rfl rfl hl.1 rfl (Nat.le_of_ble_eq_true rfl) dX7_sharedOut_66 ⟨Nat.zero_le _, Nat.zero_le _⟩ ?_
          refine lv_aload_n hx hb dX7_sharedOut_69 rfl (lv_at hl 2 rfl) ?_
          refine lv_lload_n hx hb dX7_sharedOut_70 rfl (lv_at hl 3 rfl) ?_
          refine lv_iload hx hb dX7_sharedOut_71 (lv_at hl 7 rfl) ?_
          obtain ⟨v13, hc14, h⟩ := sh_b1_e h
          refine sh_cVi (As := [.long x1, .int x6]) (rest := [.int v11]) hfix (k_X7_partsOfRows l D cI cJ cZ q I J A B x1 x6 v13 hc14) (cwV 2 hts gX7_sharedOut_X7_partsOfRows rfl rfl rfl hdV_X7_partsOfRows ⟨Nat.le_of_ble_eq_true rfl, Nat.le_of_ble_eq_true rfl⟩) hP hK [0, 1, 2, 3, 4, 5, 6, 7, 8, 9, 10, 11, 12, 13, 14, 15, 16, 17, 18, 19, 20, 21, 22] rfl 0 rfl rfl rfl hl.1 rfl (Nat.le_of_ble_eq_true rfl) dX7_sharedOut_73 ⟨Nat.zero_le _, Nat.zero_le _⟩ ?_
          refine lv_isub hx hb dX7_sharedOut_76 ?_
          refine lv_istore (lv' := [(9, .int (v11 - v13)), (8, .int (v7 * v9)), (7, .int v5), (0, .ref (q 0)), (1, .long x1), (3, .int x3), (4, .int x4), (5, .int x5), (6, .int x6)]) hx hb dX7_sharedOut_77 hl (by decide) rfl (fun ls hl => ?_)
          refine lv_iload hx hb dX7_sharedOut_79 (lv_at hl 7 rfl) ?_
          refine lv_iload hx hb dX7_sharedOut_81 (lv_at hl 1 rfl) ?_
          refine lv_iload hx hb dX7_sharedOut_83 (lv_at hl 0 rfl) ?_
          refine lv_imul hx hb dX7_sharedOut_85 ?_
          refine lv_iadd hx hb dX7_sharedOut_86 ?_
          refine lv_istore (lv' := [(5, .int (x5 + ((v7 * v9) * (v11 - v13)))), (9, .int (v11 - v13)), (8, .int (v7 * v9)), (7, .int v5), (0, .ref (q 0)), (1, .long x1), (3, .int x3), (4, .int x4), (6, .int x6)]) hx hb dX7_sharedOut_87 hl (by decide) rfl (fun ls hl => ?_)
          refine lv_iinc (v := (x6 + 1)) (lv' := [(6, .int (x6 + 1)), (5, .int (x5 + ((v7 * v9) * (v11 - v13)))), (9, .int (v11 - v13)), (8, .int (v7 * v9)), (7, .int v5), (0, .ref (q 0)), (1, .long x1), (3, .int x3), (4, .int x4)]) hx hb dX7_sharedOut_89 hl (k := 8) rfl rfl (by decide) rfl (fun ls hl => ?_)
          refine lv_goto (tgt := 15) hx hb dX7_sharedOut_92 (by decide) ?_
          exact ih x1 x3 x4 (x5 + ((v7 * v9) * (v11 - v13))) (x6 + 1) ow5 ls h (lv_sub hl [5, 6, 7, 8, 1, 0] rfl)  hk
  obtain ⟨w16, hc17, h⟩ := sh_b1_e h
  refine LP15 sh_fu x1 x3 v1 0 0 w16 ls hc17 (lv_sub hl [3, 4, 5, 2, 1, 0] rfl)  (fun ls hl  => ?_)
  refine lv_iload hx hb dX7_sharedOut_95 (lv_at hl 0 rfl) ?_
  exact sh_roi hx hb hr hlocks hQ (Option.some.inj h) dX7_sharedOut_97
theorem hdV_X7_share : yX7_share.cls = RX7 ∧ yX7_share.cls ≠ "java/lang/invoke/MethodHandle" ∧ yX7_share.cls ≠ "java/lang/invoke/VarHandle" ∧ (parseMethodDescriptor yX7_share.desc).map (fun d => d.parameters.length) = some 3 := by decide +kernel
abbrev rmX7_share : Room := { frames := 5, cells := 0, slots := 0, locals := 135 }
set_option maxHeartbeats 4000000 in
set_option maxRecDepth 100000 in
theorem k_X7_share (l : Launch) (D : va_G) (cI cJ cZ : ClassId) (q : Nat → Nat) (I : Nat → Int32) (J : Nat → Int64) (A : Nat → Nat → Int32) (B : Nat → Nat → Int64) (x1 : Int32) (x2 : Int32) (x3 : Int32) (o : Int32) (h : fX7_share I J B x1 x2 x3 = some o) : Met l yX7_share wsX7_share rmX7_share (sh_Pr D (sh_ty cI cJ cZ) (sh_w7 q cI cJ cZ I J A B) [.ref (q 0), .int x1, .int x2, .int x3]) (vp_Si (fun z => z = o)) 0 0 (fun _ => False) := by
  refine Met.ofW (cc := cX7_share) (maxL := 4) (ret := (some .int)) (by decide) rfl ?_
  intro p e s m args below meth c s₁ hB hml hv
  obtain ⟨hargs, hP, hK⟩ := hv
  have hx := hB.exec
  have hb := hB.bytes
  have hr := hB.returns
  have hts := atoms_spec (ws := wsX7_share) hB.pre
  have hown : s.vm.findClass RX7 = some m.cls := findClass_of_methodNamed hB.named
  have hlocks := hB.notSynchronized
  have hfix : CallFix p m c cX7_share 4 s args wsX7_share RX7 := ⟨hx, hb, hml, hown, hts⟩
  have hinX7 : ∀ w ∈ wsX70, w ∈ wsX7_share := by decide +kernel
  have lk1 := hts (.fieldLink RX7 19 "ShadeTree" "grid" "LShadeTree$Grid;") (by decide +kernel)
  have lk2 := hts (.fieldLink RX7 28 "ShadeTree" "now" "LShadeTree$Shades;") (by decide +kernel)
  rw [show entryFrame m args 4 = entryFrame m ([.ref (q 0), .int x1, .int x2, .int x3] : List Value).toArray 4 by rw [hargs], lg_entry_eq]
  have hl := lv_entry ([.ref (q 0), .int x1, .int x2, .int x3]) (n := 4) (Nat.le_of_ble_eq_true rfl)
  generalize (lg_sl ([.ref (q 0), .int x1, .int x2, .int x3]) ++ List.replicate (4 - (lg_sl ([.ref (q 0), .int x1, .int x2, .int x3])).length) Slot.unset).toArray = ls at hl ⊢
  have hl : lv_has ls 4 [(0, .ref (q 0)), (1, .int x1), (2, .int x2), (3, .int x3)] := hl
  generalize hQ : MQ below (vp_Si (fun z => z = o)) args s 0 0 (fun _ => False) = Q
  unfold fX7_share at h
  refine lv_aload_n hx hb dX7_share_0 rfl (lv_at hl 0 rfl) ?_
  refine va_get (ci := 7) (v := .ref (q 3)) (C := RX7) (T := TX7) (N := 10) hx hb hts hinX7 hown hK hP 0 rfl rfl 1 (by decide) lk1 (fun _ h9 => h9) rfl dX7_share_1 ?_
  refine lv_iload_n hx hb dX7_share_4 rfl (lv_at hl 1 rfl) ?_
  obtain ⟨v1, hc2, h⟩ := sh_b1_e h
  refine sh_cVi (As := [.int x1]) (rest := []) hfix (k_X1_hasRow l D cI cJ cZ (q 3) (I 1) (I 2) (I 3) (J 0) (J 1) (J 2) x1 v1 hc2) (cwV 1 hts gX7_share_X1_hasRow rfl rfl rfl hdV_X1_hasRow ⟨Nat.le_of_ble_eq_true rfl, Nat.le_of_ble_eq_true rfl⟩) hP hK [3] rfl 3 rfl rfl rfl hl.1 rfl (Nat.le_of_ble_eq_true rfl) dX7_share_5 ⟨Nat.zero_le _, Nat.zero_le _⟩ ?_
  refine lv_if_ne (tgt := 13) hx hb dX7_share_8 (by decide) (fun g3 => ?_) (fun g3 => ?_)
  · rw [if_neg g3] at h
    refine lv_iload_n hx hb dX7_share_13 rfl (lv_at hl 2 rfl) ?_
    obtain ⟨v4, hc5, h⟩ := sh_b1_e h
    refine sh_cSi (As := [.int x2]) (rest := []) hfix (k_X7_isShade l D cI cJ cZ x2 v4 hc5) (va_cwS 1 hts gX7_share_X7_isShade rfl rfl rfl hdS_X7_isShade ⟨Nat.le_of_ble_eq_true rfl, Nat.le_of_ble_eq_true rfl⟩) hP hK [] rfl rfl hl.1 rfl (Nat.le_of_ble_eq_true rfl) dX7_share_14 ⟨Nat.zero_le _, Nat.zero_le _⟩ ?_
    refine lv_if_ne (tgt := 23) hx hb dX7_share_17 (by decide) (fun g6 => ?_) (fun g6 => ?_)
    · rw [if_neg g6] at h
      refine lv_aload_n hx hb dX7_share_23 rfl (lv_at hl 0 rfl) ?_
      refine lv_aload_n hx hb dX7_share_24 rfl (lv_at hl 0 rfl) ?_
      refine va_get (ci := 7) (v := .ref (q 4)) (C := RX7) (T := TX7) (N := 10) hx hb hts hinX7 hown hK hP 0 rfl rfl 2 (by decide) lk2 (fun _ h9 => h9) rfl dX7_share_25 ?_
      refine lv_iload_n hx hb dX7_share_28 rfl (lv_at hl 2 rfl) ?_
      obtain ⟨v7, hc8, h⟩ := sh_b1_e h
      refine sh_cVl (As := [.int x2]) (rest := [.ref (q 0)]) hfix (k_X2_atLeast l D cI cJ cZ (q 3) (q 4) (q 5) (I 1) (I 2) (I 3) (J 0) (J 1) (J 2) (B 0) x2 v7 hc8) (cwV 1 hts gX7_share_X2_atLeast rfl rfl rfl hdV_X2_atLeast ⟨Nat.le_of_ble_eq_true rfl, Nat.le_of_ble_eq_true rfl⟩) hP hK [4, 5, 3] rfl 4 rfl rfl rfl hl.1 rfl (Nat.le_of_ble_eq_true rfl) dX7_share_29 ⟨Nat.zero_le _, Nat.zero_le _⟩ ?_
      refine lv_iload_n hx hb dX7_share_32 rfl (lv_at hl 1 rfl) ?_
      obtain ⟨v9, hc10, h⟩ := sh_b1_e h
      refine sh_cVi (As := [.long v7, .int x1]) (rest := []) hfix (k_X7_sharedOut l D cI cJ cZ q I J A B v7 x1 v9 hc10) (cwV 2 hts gX7_share_X7_sharedOut rfl rfl rfl hdV_X7_sharedOut ⟨Nat.le_of_ble_eq_true rfl, Nat.le_of_ble_eq_true rfl⟩) hP hK [0, 1, 2, 3, 4, 5, 6, 7, 8, 9, 10, 11, 12, 13, 14, 15, 16, 17, 18, 19, 20, 21, 22] rfl 0 rfl rfl rfl hl.1 rfl (Nat.le_of_ble_eq_true rfl) dX7_share_33 ⟨Nat.zero_le _, Nat.zero_le _⟩ ?_
      refine lv_aload_n hx hb dX7_share_36 rfl (lv_at hl 0 rfl) ?_
      refine va_get (ci := 7) (v := .ref (q 3)) (C := RX7) (T := TX7) (N := 10) hx hb hts hinX7 hown hK hP 0 rfl rfl 1 (by decide) lk1 (fun _ h9 => h9) rfl dX7_share_37 ?_
      obtain ⟨v11, hc12, h⟩ := sh_b1_e h
      refine sh_cVi (As := []) (rest := [.int v9]) hfix (k_X1_high l D cI cJ cZ (q 3) (I 1) (I 2) (I 3) (J 0) (J 1) (J 2) v11 hc12) (cwV 0 hts gX7_share_X1_high rfl rfl rfl hdV_X1_high ⟨Nat.le_of_ble_eq_true rfl, Nat.le_of_ble_eq_true rfl⟩) hP hK [3] rfl 3 rfl rfl rfl hl.1 rfl (Nat.le_of_ble_eq_true rfl) dX7_share_40 ⟨Nat.zero_le _, Nat.zero_le _⟩ ?_
      obtain ⟨v13, hc14, h⟩ := sh_b1_e h
      refine sh_cSi (As := [.int v11]) (rest := [.int v9]) hfix (k_X7_factorial l D cI cJ cZ v11 v13 hc14) (va_cwS 1 hts gX7_share_X7_factorial rfl rfl rfl hdS_X7_factorial ⟨Nat.le_of_ble_eq_true rfl, Nat.le_of_ble_eq_true rfl⟩) hP hK [] rfl rfl hl.1 rfl (Nat.le_of_ble_eq_true rfl) dX7_share_43 ⟨Nat.zero_le _, Nat.zero_le _⟩ ?_
      refine lv_iload_n hx hb dX7_share_46 rfl (lv_at hl 3 rfl) ?_
      obtain ⟨v15, hc16, h⟩ := sh_b1_e h
      refine sh_cSi (As := [.int v9, .int v13, .int x3]) (rest := []) hfix (k_X7_fraction l D cI cJ cZ v9 v13 x3 v15 hc16) (va_cwS 3 hts gX7_share_X7_fraction rfl rfl rfl hdS_X7_fraction ⟨Nat.le_of_ble_eq_true rfl, Nat.le_of_ble_eq_true rfl⟩) hP hK [] rfl rfl hl.1 rfl (Nat.le_of_ble_eq_true rfl) dX7_share_47 ⟨Nat.zero_le _, Nat.zero_le _⟩ ?_
      exact sh_roi hx hb hr hlocks hQ (Option.some.inj h) dX7_share_50
    · rw [if_pos g6] at h
      refine lv_bipush (v := -2) hx hb dX7_share_20 (by decide) ?_
      exact sh_roi hx hb hr hlocks hQ (Option.some.inj h) dX7_share_22
  · rw [if_pos g3] at h
    refine lv_iconst (v := -1) hx hb dX7_share_11 (by decide) ?_
    exact sh_roi hx hb hr hlocks hQ (Option.some.inj h) dX7_share_12
theorem hdV_X7_see : yX7_see.cls = RX7 ∧ yX7_see.cls ≠ "java/lang/invoke/MethodHandle" ∧ yX7_see.cls ≠ "java/lang/invoke/VarHandle" ∧ (parseMethodDescriptor yX7_see.desc).map (fun d => d.parameters.length) = some 3 := by decide +kernel
abbrev rmX7_see : Room := { frames := 2, cells := 0, slots := 0, locals := 41 }
set_option maxHeartbeats 4000000 in
set_option maxRecDepth 100000 in
theorem k_X7_see (l : Launch) (D : va_G) (cI cJ cZ : ClassId) (sz : Nat) (q : Nat → Nat) (I : Nat → Int32) (J : Nat → Int64) (A : Nat → Nat → Int32) (B : Nat → Nat → Int64) (x1 : Int32) (x2 : Int32) (x3 : Int32) (o : Int32) (oI : Nat → Int32) (oA : Nat → Nat → Int32) (h : fX7_see I A x1 x2 x3 = some (o, oI, oA)) : Met l yX7_see wsX7_see rmX7_see (sh_Pw D (sh_ty cI cJ cZ) sz (sh_w7 q cI cJ cZ I J A B) [.ref (q 0), .int x1, .int x2, .int x3]) (sh_Qi D (sh_ty cI cJ cZ) (va_A (sh_w7 q cI cJ cZ I J A B) sz) (sh_w7 q cI cJ cZ oI J oA B) o) 0 0 (va_A (sh_w7 q cI cJ cZ I J A B) sz) := by
  refine Met.ofW (cc := cX7_see) (maxL := 4) (ret := (some .int)) (by decide) rfl ?_
  intro p e s m args below meth c s₁ hB hml hv
  obtain ⟨hargs, hsz, hP, hK, hD0⟩ := hv
  have hx := hB.exec
  have hb := hB.bytes
  have hr := hB.returns
  have hts := atoms_spec (ws := wsX7_see) hB.pre
  have hown : s.vm.findClass RX7 = some m.cls := findClass_of_methodNamed hB.named
  have hlocks := hB.notSynchronized
  have hfix : CallFix p m c cX7_see 4 s args wsX7_see RX7 := ⟨hx, hb, hml, hown, hts⟩
  have hinX7 : ∀ w ∈ wsX70, w ∈ wsX7_see := by decide +kernel
  have lk1 := hts (.fieldLink RX7 19 "ShadeTree" "grid" "LShadeTree$Grid;") (by decide +kernel)
  have lk2 := hts (.fieldLink RX7 64 "ShadeTree" "sights" "LShadeTree$Sights;") (by decide +kernel)
  rw [show entryFrame m args 4 = entryFrame m ([.ref (q 0), .int x1, .int x2, .int x3] : List Value).toArray 4 by rw [hargs], lg_entry_eq]
  have hl := lv_entry ([.ref (q 0), .int x1, .int x2, .int x3]) (n := 4) (Nat.le_of_ble_eq_true rfl)
  generalize (lg_sl ([.ref (q 0), .int x1, .int x2, .int x3]) ++ List.replicate (4 - (lg_sl ([.ref (q 0), .int x1, .int x2, .int x3])).length) Slot.unset).toArray = ls at hl ⊢
  have hl : lv_has ls 4 [(0, .ref (q 0)), (1, .int x1), (2, .int x2), (3, .int x3)] := hl
  subst hsz
  have hD := hD0.self (sz := s.heap.size)
  generalize hAe : va_A (sh_w7 q cI cJ cZ I J A B) s.heap.size = Az at hD ⊢
  have hA : ∀ q : Nat, s.heap.size ≤ q → Az q := fun q h => by rw [← hAe]; exact Or.inr h
  have hS : va_S Az s.heap s.heap [] := va_S.rf
  generalize hQ : MQ below (sh_Qi D (sh_ty cI cJ cZ) Az (sh_w7 q cI cJ cZ oI J oA B) o) args s 0 0 Az = Q
  unfold fX7_see at h
  refine lv_aload_n hx hb dX7_see_0 rfl (lv_at hl 0 rfl) ?_
  refine va_get (ci := 7) (v := .ref (q 3)) (C := RX7) (T := TX7) (N := 10) hx hb hts hinX7 hown hK hP 0 rfl rfl 1 (by decide) lk1 (fun _ h9 => h9) rfl dX7_see_1 ?_
  refine lv_iload_n hx hb dX7_see_4 rfl (lv_at hl 1 rfl) ?_
  obtain ⟨v1, hc2, h⟩ := sh_b1_e h
  refine sh_cVi (As := [.int x1]) (rest := []) hfix (k_X1_hasDot l D cI cJ cZ (q 3) (I 1) (I 2) (I 3) (J 0) (J 1) (J 2) x1 v1 hc2) (cwV 1 hts gX7_see_X1_hasDot rfl rfl rfl hdV_X1_hasDot ⟨Nat.le_of_ble_eq_true rfl, Nat.le_of_ble_eq_true rfl⟩) hP hK [3] rfl 3 rfl rfl rfl hl.1 rfl (Nat.le_of_ble_eq_true rfl) dX7_see_5 ⟨Nat.zero_le _, Nat.zero_le _⟩ ?_
  refine lv_if_eq (tgt := 22) hx hb dX7_see_8 (by decide) (fun g3 => ?_) (fun g3 => ?_)
  · rw [if_pos g3] at h
    refine lv_iconst (v := -1) hx hb dX7_see_22 (by decide) ?_
    cases h
    exact sh_rwi hx hb hr hlocks hQ hK hP hD hS dX7_see_23
  · rw [if_neg g3] at h
    refine lv_aload_n hx hb dX7_see_11 rfl (lv_at hl 0 rfl) ?_
    refine va_get (ci := 7) (v := .ref (q 3)) (C := RX7) (T := TX7) (N := 10) hx hb hts hinX7 hown hK hP 0 rfl rfl 1 (by decide) lk1 (fun _ h9 => h9) rfl dX7_see_12 ?_
    refine lv_iload_n hx hb dX7_see_15 rfl (lv_at hl 2 rfl) ?_
    obtain ⟨v4, hc5, h⟩ := sh_b1_e h
    refine sh_cVi (As := [.int x2]) (rest := []) hfix (k_X1_hasDot l D cI cJ cZ (q 3) (I 1) (I 2) (I 3) (J 0) (J 1) (J 2) x2 v4 hc5) (cwV 1 hts gX7_see_X1_hasDot rfl rfl rfl hdV_X1_hasDot ⟨Nat.le_of_ble_eq_true rfl, Nat.le_of_ble_eq_true rfl⟩) hP hK [3] rfl 3 rfl rfl rfl hl.1 rfl (Nat.le_of_ble_eq_true rfl) dX7_see_16 ⟨Nat.zero_le _, Nat.zero_le _⟩ ?_
    refine lv_if_ne (tgt := 24) hx hb dX7_see_19 (by decide) (fun g6 => ?_) (fun g6 => ?_)
    · rw [if_neg g6] at h
      refine lv_iload_n hx hb dX7_see_24 rfl (lv_at hl 3 rfl) ?_
      refine lv_if_eq (tgt := 36) hx hb dX7_see_25 (by decide) (fun g7 => ?_) (fun g7 => ?_)
      · rw [if_pos g7] at h
        refine lv_aload_n hx hb dX7_see_36 rfl (lv_at hl 0 rfl) ?_
        refine va_get (ci := 7) (v := .ref (q 19)) (C := RX7) (T := TX7) (N := 10) hx hb hts hinX7 hown hK hP 0 rfl rfl 8 (by decide) lk2 (fun _ h9 => h9) rfl dX7_see_37 ?_
        refine lv_iload_n hx hb dX7_see_40 rfl (lv_at hl 1 rfl) ?_
        refine lv_iload_n hx hb dX7_see_41 rfl (lv_at hl 2 rfl) ?_
        refine lv_iload_n hx hb dX7_see_42 rfl (lv_at hl 3 rfl) ?_
        refine lv_iconst (v := 1) hx hb dX7_see_43 (by decide) ?_
        refine lv_icmp_ne (tgt := 51) hx hb dX7_see_44 (by decide) (fun g8 => ?_) (fun g8 => ?_)
        · rw [if_neg g8] at h
          refine lv_iconst (v := 0) hx hb dX7_see_51 (by decide) ?_
          obtain ⟨v9, u10, u11, u12, u13, hc14, h⟩ := sh_b5_e h
          refine sh_wVi (wn := (sh_w7 q cI cJ cZ (upd I 7 u13) J (va_up (va_up (va_up A 4 u10) 5 u11) 6 u12) B)) (As := [.int x1, .int x2, .int 0]) (rest := []) hfix (k_X3_add l D cI cJ cZ _ (q 19) (q 20) (q 21) (q 22) (A 4) (A 5) (A 6) (I 7) x1 x2 0 v9 u10 u11 u12 u13 hc14) (cwV 3 hts gX7_see_X3_add rfl rfl rfl hdV_X3_add ⟨Nat.le_of_ble_eq_true rfl, Nat.le_of_ble_eq_true rfl⟩) hP hK hD hS hA [19, 20, 21, 22] [0, 1, 2, 3, 4, 5, 6, 7, 8, 9, 10, 11, 12, 13, 14, 15, 16, 17, 18] [0, 1, 2, 3, 4, 5, 6, 7, 8, 9, 10, 11, 12, 13, 14, 15, 16, 17, 18, 19, 20, 21, 22] rfl rfl rfl rfl rfl rfl rfl 19 rfl rfl rfl hl.1 rfl (Nat.le_of_ble_eq_true rfl) dX7_see_52 ⟨Nat.zero_le _, Nat.zero_le _⟩ (fun H locs hP hD hS => ?_)
          refine lv_if_eq (tgt := 68) hx hb dX7_see_55 (by decide) (fun g15 => ?_) (fun g15 => ?_)
          · rw [if_pos g15] at h
            refine lv_bipush (v := -4) hx hb dX7_see_68 (by decide) ?_
            cases h
            exact sh_rwi hx hb hr hlocks hQ hK hP hD hS dX7_see_70
          · rw [if_neg g15] at h
            refine lv_aload_n hx hb dX7_see_58 rfl (lv_at hl 0 rfl) ?_
            refine va_get (ci := 7) (v := .ref (q 19)) (C := RX7) (T := TX7) (N := 10) hx hb hts hinX7 hown hK hP 0 rfl rfl 8 (by decide) lk2 (fun _ h9 => h9) rfl dX7_see_59 ?_
            obtain ⟨v16, hc17, h⟩ := sh_b1_e h
            refine sh_cVi (As := []) (rest := []) hfix (k_X3_size l D cI cJ cZ (q 19) (q 20) (q 21) (q 22) u10 u11 u12 u13 v16 hc17) (cwV 0 hts gX7_see_X3_size rfl rfl rfl hdV_X3_size ⟨Nat.le_of_ble_eq_true rfl, Nat.le_of_ble_eq_true rfl⟩) hP hK [19, 20, 21, 22] rfl 19 rfl rfl rfl hl.1 rfl (Nat.le_of_ble_eq_true rfl) dX7_see_62 ⟨Nat.zero_le _, Nat.zero_le _⟩ ?_
            refine lv_goto (tgt := 70) hx hb dX7_see_65 (by decide) ?_
            cases h
            exact sh_rwi hx hb hr hlocks hQ hK hP hD hS dX7_see_70
        · rw [if_pos g8] at h
          refine lv_iconst (v := 1) hx hb dX7_see_47 (by decide) ?_
          refine lv_goto (tgt := 52) hx hb dX7_see_48 (by decide) ?_
          obtain ⟨v18, u19, u20, u21, u22, hc23, h⟩ := sh_b5_e h
          refine sh_wVi (wn := (sh_w7 q cI cJ cZ (upd I 7 u22) J (va_up (va_up (va_up A 4 u19) 5 u20) 6 u21) B)) (As := [.int x1, .int x2, .int 1]) (rest := []) hfix (k_X3_add l D cI cJ cZ _ (q 19) (q 20) (q 21) (q 22) (A 4) (A 5) (A 6) (I 7) x1 x2 1 v18 u19 u20 u21 u22 hc23) (cwV 3 hts gX7_see_X3_add rfl rfl rfl hdV_X3_add ⟨Nat.le_of_ble_eq_true rfl, Nat.le_of_ble_eq_true rfl⟩) hP hK hD hS hA [19, 20, 21, 22] [0, 1, 2, 3, 4, 5, 6, 7, 8, 9, 10, 11, 12, 13, 14, 15, 16, 17, 18] [0, 1, 2, 3, 4, 5, 6, 7, 8, 9, 10, 11, 12, 13, 14, 15, 16, 17, 18, 19, 20, 21, 22] rfl rfl rfl rfl rfl rfl rfl 19 rfl rfl rfl hl.1 rfl (Nat.le_of_ble_eq_true rfl) dX7_see_52 ⟨Nat.zero_le _, Nat.zero_le _⟩ (fun H locs hP hD hS => ?_)
          refine lv_if_eq (tgt := 68) hx hb dX7_see_55 (by decide) (fun g24 => ?_) (fun g24 => ?_)
          · rw [if_pos g24] at h
            refine lv_bipush (v := -4) hx hb dX7_see_68 (by decide) ?_
            cases h
            exact sh_rwi hx hb hr hlocks hQ hK hP hD hS dX7_see_70
          · rw [if_neg g24] at h
            refine lv_aload_n hx hb dX7_see_58 rfl (lv_at hl 0 rfl) ?_
            refine va_get (ci := 7) (v := .ref (q 19)) (C := RX7) (T := TX7) (N := 10) hx hb hts hinX7 hown hK hP 0 rfl rfl 8 (by decide) lk2 (fun _ h9 => h9) rfl dX7_see_59 ?_
            obtain ⟨v25, hc26, h⟩ := sh_b1_e h
            refine sh_cVi (As := []) (rest := []) hfix (k_X3_size l D cI cJ cZ (q 19) (q 20) (q 21) (q 22) u19 u20 u21 u22 v25 hc26) (cwV 0 hts gX7_see_X3_size rfl rfl rfl hdV_X3_size ⟨Nat.le_of_ble_eq_true rfl, Nat.le_of_ble_eq_true rfl⟩) hP hK [19, 20, 21, 22] rfl 19 rfl rfl rfl hl.1 rfl (Nat.le_of_ble_eq_true rfl) dX7_see_62 ⟨Nat.zero_le _, Nat.zero_le _⟩ ?_
            refine lv_goto (tgt := 70) hx hb dX7_see_65 (by decide) ?_
            cases h
            exact sh_rwi hx hb hr hlocks hQ hK hP hD hS dX7_see_70
      · rw [if_neg g7] at h
        refine lv_iload_n hx hb dX7_see_28 rfl (lv_at hl 3 rfl) ?_
        refine lv_iconst (v := 1) hx hb dX7_see_29 (by decide) ?_
        refine lv_icmp_eq (tgt := 36) hx hb dX7_see_30 (by decide) (fun g27 => ?_) (fun g27 => ?_)
        · rw [if_pos g27] at h
          refine lv_aload_n hx hb dX7_see_36 rfl (lv_at hl 0 rfl) ?_
          refine va_get (ci := 7) (v := .ref (q 19)) (C := RX7) (T := TX7) (N := 10) hx hb hts hinX7 hown hK hP 0 rfl rfl 8 (by decide) lk2 (fun _ h9 => h9) rfl dX7_see_37 ?_
          refine lv_iload_n hx hb dX7_see_40 rfl (lv_at hl 1 rfl) ?_
          refine lv_iload_n hx hb dX7_see_41 rfl (lv_at hl 2 rfl) ?_
          refine lv_iload_n hx hb dX7_see_42 rfl (lv_at hl 3 rfl) ?_
          refine lv_iconst (v := 1) hx hb dX7_see_43 (by decide) ?_
          refine lv_icmp_ne (tgt := 51) hx hb dX7_see_44 (by decide) (fun g28 => ?_) (fun g28 => ?_)
          · rw [if_neg g28] at h
            refine lv_iconst (v := 0) hx hb dX7_see_51 (by decide) ?_
            obtain ⟨v29, u30, u31, u32, u33, hc34, h⟩ := sh_b5_e h
            refine sh_wVi (wn := (sh_w7 q cI cJ cZ (upd I 7 u33) J (va_up (va_up (va_up A 4 u30) 5 u31) 6 u32) B)) (As := [.int x1, .int x2, .int 0]) (rest := []) hfix (k_X3_add l D cI cJ cZ _ (q 19) (q 20) (q 21) (q 22) (A 4) (A 5) (A 6) (I 7) x1 x2 0 v29 u30 u31 u32 u33 hc34) (cwV 3 hts gX7_see_X3_add rfl rfl rfl hdV_X3_add ⟨Nat.le_of_ble_eq_true rfl, Nat.le_of_ble_eq_true rfl⟩) hP hK hD hS hA [19, 20, 21, 22] [0, 1, 2, 3, 4, 5, 6, 7, 8, 9, 10, 11, 12, 13, 14, 15, 16, 17, 18] [0, 1, 2, 3, 4, 5, 6, 7, 8, 9, 10, 11, 12, 13, 14, 15, 16, 17, 18, 19, 20, 21, 22] rfl rfl rfl rfl rfl rfl rfl 19 rfl rfl rfl hl.1 rfl (Nat.le_of_ble_eq_true rfl) dX7_see_52 ⟨Nat.zero_le _, Nat.zero_le _⟩ (fun H locs hP hD hS => ?_)
            refine lv_if_eq (tgt := 68) hx hb dX7_see_55 (by decide) (fun g35 => ?_) (fun g35 => ?_)
            · rw [if_pos g35] at h
              refine lv_bipush (v := -4) hx hb dX7_see_68 (by decide) ?_
              cases h
              exact sh_rwi hx hb hr hlocks hQ hK hP hD hS dX7_see_70
            · rw [if_neg g35] at h
              refine lv_aload_n hx hb dX7_see_58 rfl (lv_at hl 0 rfl) ?_
              refine va_get (ci := 7) (v := .ref (q 19)) (C := RX7) (T := TX7) (N := 10) hx hb hts hinX7 hown hK hP 0 rfl rfl 8 (by decide) lk2 (fun _ h9 => h9) rfl dX7_see_59 ?_
              obtain ⟨v36, hc37, h⟩ := sh_b1_e h
              refine sh_cVi (As := []) (rest := []) hfix (k_X3_size l D cI cJ cZ (q 19) (q 20) (q 21) (q 22) u30 u31 u32 u33 v36 hc37) (cwV 0 hts gX7_see_X3_size rfl rfl rfl hdV_X3_size ⟨Nat.le_of_ble_eq_true rfl, Nat.le_of_ble_eq_true rfl⟩) hP hK [19, 20, 21, 22] rfl 19 rfl rfl rfl hl.1 rfl (Nat.le_of_ble_eq_true rfl) dX7_see_62 ⟨Nat.zero_le _, Nat.zero_le _⟩ ?_
              refine lv_goto (tgt := 70) hx hb dX7_see_65 (by decide) ?_
              cases h
              exact sh_rwi hx hb hr hlocks hQ hK hP hD hS dX7_see_70
          · rw [if_pos g28] at h
            refine lv_iconst (v := 1) hx hb dX7_see_47 (by decide) ?_
            refine lv_goto (tgt := 52) hx hb dX7_see_48 (by decide) ?_
            obtain ⟨v38, u39, u40, u41, u42, hc43, h⟩ := sh_b5_e h
            refine sh_wVi (wn := (sh_w7 q cI cJ cZ (upd I 7 u42) J (va_up (va_up (va_up A 4 u39) 5 u40) 6 u41) B)) (As := [.int x1, .int x2, .int 1]) (rest := []) hfix (k_X3_add l D cI cJ cZ _ (q 19) (q 20) (q 21) (q 22) (A 4) (A 5) (A 6) (I 7) x1 x2 1 v38 u39 u40 u41 u42 hc43) (cwV 3 hts gX7_see_X3_add rfl rfl rfl hdV_X3_add ⟨Nat.le_of_ble_eq_true rfl, Nat.le_of_ble_eq_true rfl⟩) hP hK hD hS hA [19, 20, 21, 22] [0, 1, 2, 3, 4, 5, 6, 7, 8, 9, 10, 11, 12, 13, 14, 15, 16, 17, 18] [0, 1, 2, 3, 4, 5, 6, 7, 8, 9, 10, 11, 12, 13, 14, 15, 16, 17, 18, 19, 20, 21, 22] rfl rfl rfl rfl rfl rfl rfl 19 rfl rfl rfl hl.1 rfl (Nat.le_of_ble_eq_true rfl) dX7_see_52 ⟨Nat.zero_le _, Nat.zero_le _⟩ (fun H locs hP hD hS => ?_)
            refine lv_if_eq (tgt := 68) hx hb dX7_see_55 (by decide) (fun g44 => ?_) (fun g44 => ?_)
            · rw [if_pos g44] at h
              refine lv_bipush (v := -4) hx hb dX7_see_68 (by decide) ?_
              cases h
              exact sh_rwi hx hb hr hlocks hQ hK hP hD hS dX7_see_70
            · rw [if_neg g44] at h
              refine lv_aload_n hx hb dX7_see_58 rfl (lv_at hl 0 rfl) ?_
              refine va_get (ci := 7) (v := .ref (q 19)) (C := RX7) (T := TX7) (N := 10) hx hb hts hinX7 hown hK hP 0 rfl rfl 8 (by decide) lk2 (fun _ h9 => h9) rfl dX7_see_59 ?_
              obtain ⟨v45, hc46, h⟩ := sh_b1_e h
              refine sh_cVi (As := []) (rest := []) hfix (k_X3_size l D cI cJ cZ (q 19) (q 20) (q 21) (q 22) u39 u40 u41 u42 v45 hc46) (cwV 0 hts gX7_see_X3_size rfl rfl rfl hdV_X3_size ⟨Nat.le_of_ble_eq_true rfl, Nat.le_of_ble_eq_true rfl⟩) hP hK [19, 20, 21, 22] rfl 19 rfl rfl rfl hl.1 rfl (Nat.le_of_ble_eq_true rfl) dX7_see_62 ⟨Nat.zero_le _, Nat.zero_le _⟩ ?_
              refine lv_goto (tgt := 70) hx hb dX7_see_65 (by decide) ?_
              cases h
              exact sh_rwi hx hb hr hlocks hQ hK hP hD hS dX7_see_70
        · rw [if_neg g27] at h
          refine lv_bipush (v := -2) hx hb dX7_see_33 (by decide) ?_
          cases h
          exact sh_rwi hx hb hr hlocks hQ hK hP hD hS dX7_see_35
    · rw [if_pos g6] at h
      refine lv_iconst (v := -1) hx hb dX7_see_22 (by decide) ?_
      cases h
      exact sh_rwi hx hb hr hlocks hQ hK hP hD hS dX7_see_23
theorem hdV_X7_unsee : yX7_unsee.cls = RX7 ∧ yX7_unsee.cls ≠ "java/lang/invoke/MethodHandle" ∧ yX7_unsee.cls ≠ "java/lang/invoke/VarHandle" ∧ (parseMethodDescriptor yX7_unsee.desc).map (fun d => d.parameters.length) = some 0 := by decide +kernel
abbrev rmX7_unsee : Room := { frames := 1, cells := 0, slots := 0, locals := 20 }
set_option maxHeartbeats 4000000 in
set_option maxRecDepth 100000 in
theorem k_X7_unsee (l : Launch) (D : va_G) (cI cJ cZ : ClassId) (sz : Nat) (q : Nat → Nat) (I : Nat → Int32) (J : Nat → Int64) (A : Nat → Nat → Int32) (B : Nat → Nat → Int64) (o : Int32) (oI : Nat → Int32) (h : fX7_unsee I = some (o, oI)) : Met l yX7_unsee wsX7_unsee rmX7_unsee (sh_Pw D (sh_ty cI cJ cZ) sz (sh_w7 q cI cJ cZ I J A B) [.ref (q 0)]) (sh_Qi D (sh_ty cI cJ cZ) (va_A (sh_w7 q cI cJ cZ I J A B) sz) (sh_w7 q cI cJ cZ oI J A B) o) 0 0 (va_A (sh_w7 q cI cJ cZ I J A B) sz) := by
  refine Met.ofW (cc := cX7_unsee) (maxL := 2) (ret := (some .int)) (by decide) rfl ?_
  intro p e s m args below meth c s₁ hB hml hv
  obtain ⟨hargs, hsz, hP, hK, hD0⟩ := hv
  have hx := hB.exec
  have hb := hB.bytes
  have hr := hB.returns
  have hts := atoms_spec (ws := wsX7_unsee) hB.pre
  have hown : s.vm.findClass RX7 = some m.cls := findClass_of_methodNamed hB.named
  have hlocks := hB.notSynchronized
  have hfix : CallFix p m c cX7_unsee 2 s args wsX7_unsee RX7 := ⟨hx, hb, hml, hown, hts⟩
  have hinX7 : ∀ w ∈ wsX70, w ∈ wsX7_unsee := by decide +kernel
  have lk1 := hts (.fieldLink RX7 64 "ShadeTree" "sights" "LShadeTree$Sights;") (by decide +kernel)
  rw [show entryFrame m args 2 = entryFrame m ([.ref (q 0)] : List Value).toArray 2 by rw [hargs], lg_entry_eq]
  have hl := lv_entry ([.ref (q 0)]) (n := 2) (Nat.le_of_ble_eq_true rfl)
  generalize (lg_sl ([.ref (q 0)]) ++ List.replicate (2 - (lg_sl ([.ref (q 0)])).length) Slot.unset).toArray = ls at hl ⊢
  have hl : lv_has ls 2 [(0, .ref (q 0))] := hl
  subst hsz
  have hD := hD0.self (sz := s.heap.size)
  generalize hAe : va_A (sh_w7 q cI cJ cZ I J A B) s.heap.size = Az at hD ⊢
  have hA : ∀ q : Nat, s.heap.size ≤ q → Az q := fun q h => by rw [← hAe]; exact Or.inr h
  have hS : va_S Az s.heap s.heap [] := va_S.rf
  generalize hQ : MQ below (sh_Qi D (sh_ty cI cJ cZ) Az (sh_w7 q cI cJ cZ oI J A B) o) args s 0 0 Az = Q
  unfold fX7_unsee at h
  refine lv_aload_n hx hb dX7_unsee_0 rfl (lv_at hl 0 rfl) ?_
  refine va_get (ci := 7) (v := .ref (q 19)) (C := RX7) (T := TX7) (N := 10) hx hb hts hinX7 hown hK hP 0 rfl rfl 8 (by decide) lk1 (fun _ h9 => h9) rfl dX7_unsee_1 ?_
  obtain ⟨v1, hc2, h⟩ := sh_b1_e h
  refine sh_cVi (As := []) (rest := []) hfix (k_X3_size l D cI cJ cZ (q 19) (q 20) (q 21) (q 22) (A 4) (A 5) (A 6) (I 7) v1 hc2) (cwV 0 hts gX7_unsee_X3_size rfl rfl rfl hdV_X3_size ⟨Nat.le_of_ble_eq_true rfl, Nat.le_of_ble_eq_true rfl⟩) hP hK [19, 20, 21, 22] rfl 19 rfl rfl rfl hl.1 rfl (Nat.le_of_ble_eq_true rfl) dX7_unsee_4 ⟨Nat.zero_le _, Nat.zero_le _⟩ ?_
  refine lv_istore_n (lv' := [(1, .int v1), (0, .ref (q 0))]) hx hb dX7_unsee_7 rfl hl (by decide) rfl (fun ls hl => ?_)
  refine lv_aload_n hx hb dX7_unsee_8 rfl (lv_at hl 1 rfl) ?_
  refine va_get (ci := 7) (v := .ref (q 19)) (C := RX7) (T := TX7) (N := 10) hx hb hts hinX7 hown hK hP 0 rfl rfl 8 (by decide) lk1 (fun _ h9 => h9) rfl dX7_unsee_9 ?_
  obtain ⟨u3, hc4, h⟩ := sh_b1_e h
  refine sh_wVv (wn := (sh_w7 q cI cJ cZ (upd I 7 u3) J A B)) (As := []) (rest := []) hfix (k_X3_clear l D cI cJ cZ _ (q 19) (q 20) (q 21) (q 22) (A 4) (A 5) (A 6) (I 7) u3 hc4) (cwV 0 hts gX7_unsee_X3_clear rfl rfl rfl hdV_X3_clear ⟨Nat.le_of_ble_eq_true rfl, Nat.le_of_ble_eq_true rfl⟩) hP hK hD hS hA [19, 20, 21, 22] [0, 1, 2, 3, 4, 5, 6, 7, 8, 9, 10, 11, 12, 13, 14, 15, 16, 17, 18] [0, 1, 2, 3, 4, 5, 6, 7, 8, 9, 10, 11, 12, 13, 14, 15, 16, 17, 18, 19, 20, 21, 22] rfl rfl rfl rfl rfl rfl rfl 19 rfl rfl rfl hl.1 rfl (Nat.le_of_ble_eq_true rfl) dX7_unsee_12 ⟨Nat.zero_le _, Nat.zero_le _⟩ (fun H locs hP hD hS => ?_)
  refine lv_iload_n hx hb dX7_unsee_15 rfl (lv_at hl 0 rfl) ?_
  cases h
  exact sh_rwi hx hb hr hlocks hQ hK hP hD hS dX7_unsee_16
theorem hdV_X7_ways : yX7_ways.cls = RX7 ∧ yX7_ways.cls ≠ "java/lang/invoke/MethodHandle" ∧ yX7_ways.cls ≠ "java/lang/invoke/VarHandle" ∧ (parseMethodDescriptor yX7_ways.desc).map (fun d => d.parameters.length) = some 1 := by decide +kernel
abbrev rmX7_ways : Room := { frames := 4, cells := 0, slots := 0, locals := 107 }
set_option maxHeartbeats 4000000 in
set_option maxRecDepth 100000 in
theorem k_X7_ways (l : Launch) (D : va_G) (cI cJ cZ : ClassId) (q : Nat → Nat) (I : Nat → Int32) (J : Nat → Int64) (A : Nat → Nat → Int32) (B : Nat → Nat → Int64) (x1 : Int32) (o : Int32) (h : fX7_ways I J A B x1 = some o) : Met l yX7_ways wsX7_ways rmX7_ways (sh_Pr D (sh_ty cI cJ cZ) (sh_w7 q cI cJ cZ I J A B) [.ref (q 0), .int x1]) (vp_Si (fun z => z = o)) 0 0 (fun _ => False) := by
  refine Met.ofW (cc := cX7_ways) (maxL := 6) (ret := (some .int)) (by decide) rfl ?_
  intro p e s m args below meth c s₁ hB hml hv
  obtain ⟨hargs, hP, hK⟩ := hv
  have hx := hB.exec
  have hb := hB.bytes
  have hr := hB.returns
  have hts := atoms_spec (ws := wsX7_ways) hB.pre
  have hown : s.vm.findClass RX7 = some m.cls := findClass_of_methodNamed hB.named
  have hlocks := hB.notSynchronized
  have hfix : CallFix p m c cX7_ways 6 s args wsX7_ways RX7 := ⟨hx, hb, hml, hown, hts⟩
  have hinX7 : ∀ w ∈ wsX70, w ∈ wsX7_ways := by decide +kernel
  have lk1 := hts (.fieldLink RX7 64 "ShadeTree" "sights" "LShadeTree$Sights;") (by decide +kernel)
  have lk2 := hts (.fieldLink RX7 19 "ShadeTree" "grid" "LShadeTree$Grid;") (by decide +kernel)
  have lk3 := hts (.fieldLink RX7 28 "ShadeTree" "now" "LShadeTree$Shades;") (by decide +kernel)
  rw [show entryFrame m args 6 = entryFrame m ([.ref (q 0), .int x1] : List Value).toArray 6 by rw [hargs], lg_entry_eq]
  have hl := lv_entry ([.ref (q 0), .int x1]) (n := 6) (Nat.le_of_ble_eq_true rfl)
  generalize (lg_sl ([.ref (q 0), .int x1]) ++ List.replicate (6 - (lg_sl ([.ref (q 0), .int x1])).length) Slot.unset).toArray = ls at hl ⊢
  have hl : lv_has ls 6 [(0, .ref (q 0)), (1, .int x1)] := hl
  generalize hQ : MQ below (vp_Si (fun z => z = o)) args s 0 0 (fun _ => False) = Q
  unfold fX7_ways at h
  refine lv_iload_n hx hb dX7_ways_0 rfl (lv_at hl 1 rfl) ?_
  refine lv_if_eq (tgt := 12) hx hb dX7_ways_1 (by decide) (fun g1 => ?_) (fun g1 => ?_)
  · rw [if_pos g1] at h
    refine lv_iconst (v := 0) hx hb dX7_ways_12 (by decide) ?_
    refine lv_istore_n (lv' := [(2, .int 0), (0, .ref (q 0)), (1, .int x1)]) hx hb dX7_ways_13 rfl hl (by decide) rfl (fun ls hl => ?_)
    refine lv_bipush (v := -9) hx hb dX7_ways_14 (by decide) ?_
    refine lv_istore_n (lv' := [(3, .int (-9)), (2, .int 0), (0, .ref (q 0)), (1, .int x1)]) hx hb dX7_ways_16 rfl hl (by decide) rfl (fun ls hl => ?_)
    refine lv_iconst (v := 0) hx hb dX7_ways_17 (by decide) ?_
    refine lv_istore (lv' := [(4, .int 0), (3, .int (-9)), (2, .int 0), (0, .ref (q 0)), (1, .int x1)]) hx hb dX7_ways_18 hl (by decide) rfl (fun ls hl => ?_)
    have LP14 : ∀ (n : Nat) (x1 : Int32) (x2 : Int32) (x3 : Int32) (x4 : Int32) (ow2 : Int32) (ow3 : Int32) (ls : Array Slot), fX7_ways_L20 n x1 x2 x3 x4 I J A B = some (ow2, ow3) → lv_has ls 6 [(0, .ref (q 0)), (1, .int x1), (2, .int x2), (3, .int x3), (4, .int x4)] → (∀ (ls : Array Slot), lv_has ls 6 [(1, .int x1), (2, .int ow2), (3, .int ow3)] → W p l e (headSpec wsX7_ways rmX7_ways).room s m args below meth c s.heap [] 0 0 Q (F0 m 96 ls [])) → W p l e (headSpec wsX7_ways rmX7_ways).room s m args below meth c s.heap [] 0 0 Q (F0 m 20 ls []) := by
      intro n
      induction n with
      | zero =>
        intro x1 x2 x3 x4 ow2 ow3 ls h hl hk
        exact nomatch ((fX7_ways_L20_z x1 x2 x3 x4 I J A B).symm.trans h)
      | succ n ih =>
        intro x1 x2 x3 x4 ow2 ow3 ls h hl hk
        rw [fX7_ways_L20_s] at h
        refine lv_iload hx hb dX7_ways_20 (lv_at hl 4 rfl) ?_
        refine lv_bipush (v := 9) hx hb dX7_ways_22 (by decide) ?_
        refine lv_icmp_gt (tgt := 96) hx hb dX7_ways_24 (by decide) (fun g2 => ?_) (fun g2 => ?_)
        · rw [if_pos g2] at h
          cases h
          exact hk ls (lv_sub hl [1, 2, 3] rfl) 
        · rw [if_neg g2] at h
          refine lv_iconst (v := 4) hx hb dX7_ways_27 (by decide) ?_
          refine lv_istore (lv' := [(5, .int 4), (0, .ref (q 0)), (1, .int x1), (2, .int x2), (3, .int x3), (4, .int x4)]) hx hb dX7_ways_28 hl (by decide) rfl (fun ls hl => ?_)
          have LP10 : ∀ (n : Nat) (x1 : Int32) (x2 : Int32) (x3 : Int32) (x4 : Int32) (x5 : Int32) (ow2 : Int32) (ow3 : Int32) (ls : Array Slot), fX7_ways_L30 n x1 x2 x3 x4 x5 I J A B = some (ow2, ow3) → lv_has ls 6 [(0, .ref (q 0)), (1, .int x1), (2, .int x2), (3, .int x3), (4, .int x4), (5, .int x5)] → (∀ (ls : Array Slot), lv_has ls 6 [(0, .ref (q 0)), (1, .int x1), (2, .int ow2), (3, .int ow3), (4, .int x4)] → W p l e (headSpec wsX7_ways rmX7_ways).room s m args below meth c s.heap [] 0 0 Q (F0 m 90 ls [])) → W p l e (headSpec wsX7_ways rmX7_ways).room s m args below meth c s.heap [] 0 0 Q (F0 m 30 ls []) := by
            intro n
            induction n with
            | zero =>
              intro x1 x2 x3 x4 x5 ow2 ow3 ls h hl hk
              exact nomatch ((fX7_ways_L30_z x1 x2 x3 x4 x5 I J A B).symm.trans h)
            | succ n ih =>
              intro x1 x2 x3 x4 x5 ow2 ow3 ls h hl hk
              rw [fX7_ways_L30_s] at h
              refine lv_iload hx hb dX7_ways_30 (lv_at hl 5 rfl) ?_
              refine lv_bipush (v := 8) hx hb dX7_ways_32 (by decide) ?_
              refine lv_icmp_gt (tgt := 90) hx hb dX7_ways_34 (by decide) (fun g3 => ?_) (fun g3 => ?_)
              · rw [if_pos g3] at h
                cases h
                exact hk ls (lv_sub hl [0, 1, 2, 3, 4] rfl) 
              · rw [if_neg g3] at h
                refine lv_aload_n hx hb dX7_ways_37 rfl (lv_at hl 0 rfl) ?_
                refine va_get (ci := 7) (v := .ref (q 19)) (C := RX7) (T := TX7) (N := 10) hx hb hts hinX7 hown hK hP 0 rfl rfl 8 (by decide) lk1 (fun _ h9 => h9) rfl dX7_ways_38 ?_
                refine lv_aload_n hx hb dX7_ways_41 rfl (lv_at hl 0 rfl) ?_
                refine va_get (ci := 7) (v := .ref (q 3)) (C := RX7) (T := TX7) (N := 10) hx hb hts hinX7 hown hK hP 0 rfl rfl 1 (by decide) lk2 (fun _ h9 => h9) rfl dX7_ways_42 ?_
                refine lv_aload_n hx hb dX7_ways_45 rfl (lv_at hl 0 rfl) ?_
                refine va_get (ci := 7) (v := .ref (q 4)) (C := RX7) (T := TX7) (N := 10) hx hb hts hinX7 hown hK hP 0 rfl rfl 2 (by decide) lk3 (fun _ h9 => h9) rfl dX7_ways_46 ?_
                refine lv_iload hx hb dX7_ways_49 (lv_at hl 4 rfl) ?_
                obtain ⟨v4, hc5, h⟩ := sh_b1_e h
                refine sh_cVl (As := [.int x4]) (rest := [.ref (q 3), .ref (q 19)]) hfix (k_X2_atLeast l D cI cJ cZ (q 3) (q 4) (q 5) (I 1) (I 2) (I 3) (J 0) (J 1) (J 2) (B 0) x4 v4 hc5) (cwV 1 hts gX7_ways_X2_atLeast rfl rfl rfl hdV_X2_atLeast ⟨Nat.le_of_ble_eq_true rfl, Nat.le_of_ble_eq_true rfl⟩) hP hK [4, 5, 3] rfl 4 rfl rfl rfl hl.1 rfl (Nat.le_of_ble_eq_true rfl) dX7_ways_51 ⟨Nat.zero_le _, Nat.zero_le _⟩ ?_
                refine lv_iload hx hb dX7_ways_54 (lv_at hl 5 rfl) ?_
                obtain ⟨v6, hc7, h⟩ := sh_b1_e h
                refine sh_cVi (As := [.ref (q 3), .long v4, .int x5]) (rest := []) hfix (k_X3_hold l D cI cJ cZ (q 19) (q 20) (q 21) (q 22) (q 3) (A 4) (A 5) (A 6) (I 7) (I 1) (I 2) (I 3) (J 0) (J 1) (J 2) v4 x5 v6 hc7) (cwV 3 hts gX7_ways_X3_hold rfl rfl rfl hdV_X3_hold ⟨Nat.le_of_ble_eq_true rfl, Nat.le_of_ble_eq_true rfl⟩) hP hK [19, 20, 21, 22, 3] rfl 19 rfl rfl rfl hl.1 rfl (Nat.le_of_ble_eq_true rfl) dX7_ways_56 ⟨Nat.zero_le _, Nat.zero_le _⟩ ?_
                refine lv_if_eq (tgt := 84) hx hb dX7_ways_59 (by decide) (fun g8 => ?_) (fun g8 => ?_)
                · rw [if_pos g8] at h
                  refine lv_iinc (v := (x5 + 4)) (lv' := [(5, .int (x5 + 4)), (0, .ref (q 0)), (1, .int x1), (2, .int x2), (3, .int x3), (4, .int x4)]) hx hb dX7_ways_84 hl (k := 5) rfl rfl (by decide) rfl (fun ls hl => ?_)
                  refine lv_goto (tgt := 30) hx hb dX7_ways_87 (by decide) ?_
                  exact ih x1 x2 x3 x4 (x5 + 4) ow2 ow3 ls h (lv_sub hl [1, 2, 3, 4, 5, 0] rfl)  hk
                · rw [if_neg g8] at h
                  refine lv_iinc (v := (x2 + 1)) (lv' := [(2, .int (x2 + 1)), (0, .ref (q 0)), (1, .int x1), (3, .int x3), (4, .int x4), (5, .int x5)]) hx hb dX7_ways_62 hl (k := 2) rfl rfl (by decide) rfl (fun ls hl => ?_)
                  refine lv_iload_n hx hb dX7_ways_65 rfl (lv_at hl 3 rfl) ?_
                  refine lv_bipush (v := -9) hx hb dX7_ways_66 (by decide) ?_
                  refine lv_icmp_ne (tgt := 82) hx hb dX7_ways_68 (by decide) (fun g9 => ?_) (fun g9 => ?_)
                  · rw [if_neg g9] at h
                    refine lv_iload_n hx hb dX7_ways_82 rfl (lv_at hl 3 rfl) ?_
                    refine lv_istore_n (lv' := [(3, .int x3), (2, .int (x2 + 1)), (0, .ref (q 0)), (1, .int x1), (4, .int x4), (5, .int x5)]) hx hb dX7_ways_83 rfl hl (by decide) rfl (fun ls hl => ?_)
                    refine lv_iinc (v := (x5 + 4)) (lv' := [(5, .int (x5 + 4)), (3, .int x3), (2, .int (x2 + 1)), (0, .ref (q 0)), (1, .int x1), (4, .int x4)]) hx hb dX7_ways_84 hl (k := 5) rfl rfl (by decide) rfl (fun ls hl => ?_)
                    refine lv_goto (tgt := 30) hx hb dX7_ways_87 (by decide) ?_
                    exact ih x1 (x2 + 1) x3 x4 (x5 + 4) ow2 ow3 ls h (lv_sub hl [3, 4, 2, 1, 5, 0] rfl)  hk
                  · rw [if_pos g9] at h
                    refine lv_bipush (v := 10) hx hb dX7_ways_71 (by decide) ?_
                    refine lv_iload hx hb dX7_ways_73 (lv_at hl 4 rfl) ?_
                    refine lv_imul hx hb dX7_ways_75 ?_
                    refine lv_iload hx hb dX7_ways_76 (lv_at hl 5 rfl) ?_
                    refine lv_iadd hx hb dX7_ways_78 ?_
                    refine lv_goto (tgt := 83) hx hb dX7_ways_79 (by decide) ?_
                    refine lv_istore_n (lv' := [(3, .int ((10 * x4) + x5)), (2, .int (x2 + 1)), (0, .ref (q 0)), (1, .int x1), (4, .int x4), (5, .int x5)]) hx hb dX7_ways_83 rfl hl (by decide) rfl (fun ls hl => ?_)
                    refine lv_iinc (v := (x5 + 4)) (lv' := [(5, .int (x5 + 4)), (3, .int ((10 * x4) + x5)), (2, .int (x2 + 1)), (0, .ref (q 0)), (1, .int x1), (4, .int x4)]) hx hb dX7_ways_84 hl (k := 5) rfl rfl (by decide) rfl (fun ls hl => ?_)
                    refine lv_goto (tgt := 30) hx hb dX7_ways_87 (by decide) ?_
                    exact ih x1 (x2 + 1) ((10 * x4) + x5) x4 (x5 + 4) ow2 ow3 ls h (lv_sub hl [3, 4, 2, 1, 5, 0] rfl)  hk
          obtain ⟨w11, w12, hc13, h⟩ := sh_b2_e h
          refine LP10 sh_fu x1 x2 x3 x4 4 w11 w12 ls hc13 (lv_sub hl [1, 2, 3, 4, 5, 0] rfl)  (fun ls hl  => ?_)
          refine lv_iinc (v := (x4 + 1)) (lv' := [(4, .int (x4 + 1)), (0, .ref (q 0)), (1, .int x1), (2, .int w11), (3, .int w12)]) hx hb dX7_ways_90 hl (k := 4) rfl rfl (by decide) rfl (fun ls hl => ?_)
          refine lv_goto (tgt := 20) hx hb dX7_ways_93 (by decide) ?_
          exact ih x1 w11 w12 (x4 + 1) ow2 ow3 ls h (lv_sub hl [1, 2, 3, 4, 0] rfl)  hk
    obtain ⟨w15, w16, hc18, h⟩ := sh_b2_e h
    refine LP14 sh_fu x1 0 (-9) 0 w15 w16 ls hc18 (lv_sub hl [3, 4, 2, 1, 0] rfl)  (fun ls hl  => ?_)
    refine lv_iload_n hx hb dX7_ways_96 rfl (lv_at hl 0 rfl) ?_
    refine lv_if_ne (tgt := 104) hx hb dX7_ways_97 (by decide) (fun g17 => ?_) (fun g17 => ?_)
    · rw [if_neg g17] at h
      refine lv_iload_n hx hb dX7_ways_104 rfl (lv_at hl 2 rfl) ?_
      exact sh_roi hx hb hr hlocks hQ (Option.some.inj h) dX7_ways_105
    · rw [if_pos g17] at h
      refine lv_iload_n hx hb dX7_ways_100 rfl (lv_at hl 1 rfl) ?_
      refine lv_goto (tgt := 105) hx hb dX7_ways_101 (by decide) ?_
      exact sh_roi hx hb hr hlocks hQ (Option.some.inj h) dX7_ways_105
  · rw [if_neg g1] at h
    refine lv_iload_n hx hb dX7_ways_4 rfl (lv_at hl 1 rfl) ?_
    refine lv_iconst (v := 1) hx hb dX7_ways_5 (by decide) ?_
    refine lv_icmp_eq (tgt := 12) hx hb dX7_ways_6 (by decide) (fun g19 => ?_) (fun g19 => ?_)
    · rw [if_pos g19] at h
      refine lv_iconst (v := 0) hx hb dX7_ways_12 (by decide) ?_
      refine lv_istore_n (lv' := [(2, .int 0), (0, .ref (q 0)), (1, .int x1)]) hx hb dX7_ways_13 rfl hl (by decide) rfl (fun ls hl => ?_)
      refine lv_bipush (v := -9) hx hb dX7_ways_14 (by decide) ?_
      refine lv_istore_n (lv' := [(3, .int (-9)), (2, .int 0), (0, .ref (q 0)), (1, .int x1)]) hx hb dX7_ways_16 rfl hl (by decide) rfl (fun ls hl => ?_)
      refine lv_iconst (v := 0) hx hb dX7_ways_17 (by decide) ?_
      refine lv_istore (lv' := [(4, .int 0), (3, .int (-9)), (2, .int 0), (0, .ref (q 0)), (1, .int x1)]) hx hb dX7_ways_18 hl (by decide) rfl (fun ls hl => ?_)
      have LP32 : ∀ (n : Nat) (x1 : Int32) (x2 : Int32) (x3 : Int32) (x4 : Int32) (ow2 : Int32) (ow3 : Int32) (ls : Array Slot), fX7_ways_L20 n x1 x2 x3 x4 I J A B = some (ow2, ow3) → lv_has ls 6 [(0, .ref (q 0)), (1, .int x1), (2, .int x2), (3, .int x3), (4, .int x4)] → (∀ (ls : Array Slot), lv_has ls 6 [(1, .int x1), (2, .int ow2), (3, .int ow3)] → W p l e (headSpec wsX7_ways rmX7_ways).room s m args below meth c s.heap [] 0 0 Q (F0 m 96 ls [])) → W p l e (headSpec wsX7_ways rmX7_ways).room s m args below meth c s.heap [] 0 0 Q (F0 m 20 ls []) := by
        intro n
        induction n with
        | zero =>
          intro x1 x2 x3 x4 ow2 ow3 ls h hl hk
          exact nomatch ((fX7_ways_L20_z x1 x2 x3 x4 I J A B).symm.trans h)
        | succ n ih =>
          intro x1 x2 x3 x4 ow2 ow3 ls h hl hk
          rw [fX7_ways_L20_s] at h
          refine lv_iload hx hb dX7_ways_20 (lv_at hl 4 rfl) ?_
          refine lv_bipush (v := 9) hx hb dX7_ways_22 (by decide) ?_
          refine lv_icmp_gt (tgt := 96) hx hb dX7_ways_24 (by decide) (fun g20 => ?_) (fun g20 => ?_)
          · rw [if_pos g20] at h
            cases h
            exact hk ls (lv_sub hl [1, 2, 3] rfl) 
          · rw [if_neg g20] at h
            refine lv_iconst (v := 4) hx hb dX7_ways_27 (by decide) ?_
            refine lv_istore (lv' := [(5, .int 4), (0, .ref (q 0)), (1, .int x1), (2, .int x2), (3, .int x3), (4, .int x4)]) hx hb dX7_ways_28 hl (by decide) rfl (fun ls hl => ?_)
            have LP28 : ∀ (n : Nat) (x1 : Int32) (x2 : Int32) (x3 : Int32) (x4 : Int32) (x5 : Int32) (ow2 : Int32) (ow3 : Int32) (ls : Array Slot), fX7_ways_L30 n x1 x2 x3 x4 x5 I J A B = some (ow2, ow3) → lv_has ls 6 [(0, .ref (q 0)), (1, .int x1), (2, .int x2), (3, .int x3), (4, .int x4), (5, .int x5)] → (∀ (ls : Array Slot), lv_has ls 6 [(0, .ref (q 0)), (1, .int x1), (2, .int ow2), (3, .int ow3), (4, .int x4)] → W p l e (headSpec wsX7_ways rmX7_ways).room s m args below meth c s.heap [] 0 0 Q (F0 m 90 ls [])) → W p l e (headSpec wsX7_ways rmX7_ways).room s m args below meth c s.heap [] 0 0 Q (F0 m 30 ls []) := by
              intro n
              induction n with
              | zero =>
                intro x1 x2 x3 x4 x5 ow2 ow3 ls h hl hk
                exact nomatch ((fX7_ways_L30_z x1 x2 x3 x4 x5 I J A B).symm.trans h)
              | succ n ih =>
                intro x1 x2 x3 x4 x5 ow2 ow3 ls h hl hk
                rw [fX7_ways_L30_s] at h
                refine lv_iload hx hb dX7_ways_30 (lv_at hl 5 rfl) ?_
                refine lv_bipush (v := 8) hx hb dX7_ways_32 (by decide) ?_
                refine lv_icmp_gt (tgt := 90) hx hb dX7_ways_34 (by decide) (fun g21 => ?_) (fun g21 => ?_)
                · rw [if_pos g21] at h
                  cases h
                  exact hk ls (lv_sub hl [0, 1, 2, 3, 4] rfl) 
                · rw [if_neg g21] at h
                  refine lv_aload_n hx hb dX7_ways_37 rfl (lv_at hl 0 rfl) ?_
                  refine va_get (ci := 7) (v := .ref (q 19)) (C := RX7) (T := TX7) (N := 10) hx hb hts hinX7 hown hK hP 0 rfl rfl 8 (by decide) lk1 (fun _ h9 => h9) rfl dX7_ways_38 ?_
                  refine lv_aload_n hx hb dX7_ways_41 rfl (lv_at hl 0 rfl) ?_
                  refine va_get (ci := 7) (v := .ref (q 3)) (C := RX7) (T := TX7) (N := 10) hx hb hts hinX7 hown hK hP 0 rfl rfl 1 (by decide) lk2 (fun _ h9 => h9) rfl dX7_ways_42 ?_
                  refine lv_aload_n hx hb dX7_ways_45 rfl (lv_at hl 0 rfl) ?_
                  refine va_get (ci := 7) (v := .ref (q 4)) (C := RX7) (T := TX7) (N := 10) hx hb hts hinX7 hown hK hP 0 rfl rfl 2 (by decide) lk3 (fun _ h9 => h9) rfl dX7_ways_46 ?_
                  refine lv_iload hx hb dX7_ways_49 (lv_at hl 4 rfl) ?_
                  obtain ⟨v22, hc23, h⟩ := sh_b1_e h
                  refine sh_cVl (As := [.int x4]) (rest := [.ref (q 3), .ref (q 19)]) hfix (k_X2_atLeast l D cI cJ cZ (q 3) (q 4) (q 5) (I 1) (I 2) (I 3) (J 0) (J 1) (J 2) (B 0) x4 v22 hc23) (cwV 1 hts gX7_ways_X2_atLeast rfl rfl rfl hdV_X2_atLeast ⟨Nat.le_of_ble_eq_true rfl, Nat.le_of_ble_eq_true rfl⟩) hP hK [4, 5, 3] rfl 4 rfl rfl rfl hl.1 rfl (Nat.le_of_ble_eq_true rfl) dX7_ways_51 ⟨Nat.zero_le _, Nat.zero_le _⟩ ?_
                  refine lv_iload hx hb dX7_ways_54 (lv_at hl 5 rfl) ?_
                  obtain ⟨v24, hc25, h⟩ := sh_b1_e h
                  refine sh_cVi (As := [.ref (q 3), .long v22, .int x5]) (rest := []) hfix (k_X3_hold l D cI cJ cZ (q 19) (q 20) (q 21) (q 22) (q 3) (A 4) (A 5) (A 6) (I 7) (I 1) (I 2) (I 3) (J 0) (J 1) (J 2) v22 x5 v24 hc25) (cwV 3 hts gX7_ways_X3_hold rfl rfl rfl hdV_X3_hold ⟨Nat.le_of_ble_eq_true rfl, Nat.le_of_ble_eq_true rfl⟩) hP hK [19, 20, 21, 22, 3] rfl 19 rfl rfl rfl hl.1 rfl (Nat.le_of_ble_eq_true rfl) dX7_ways_56 ⟨Nat.zero_le _, Nat.zero_le _⟩ ?_
                  refine lv_if_eq (tgt := 84) hx hb dX7_ways_59 (by decide) (fun g26 => ?_) (fun g26 => ?_)
                  · rw [if_pos g26] at h
                    refine lv_iinc (v := (x5 + 4)) (lv' := [(5, .int (x5 + 4)), (0, .ref (q 0)), (1, .int x1), (2, .int x2), (3, .int x3), (4, .int x4)]) hx hb dX7_ways_84 hl (k := 5) rfl rfl (by decide) rfl (fun ls hl => ?_)
                    refine lv_goto (tgt := 30) hx hb dX7_ways_87 (by decide) ?_
                    exact ih x1 x2 x3 x4 (x5 + 4) ow2 ow3 ls h (lv_sub hl [1, 2, 3, 4, 5, 0] rfl)  hk
                  · rw [if_neg g26] at h
                    refine lv_iinc (v := (x2 + 1)) (lv' := [(2, .int (x2 + 1)), (0, .ref (q 0)), (1, .int x1), (3, .int x3), (4, .int x4), (5, .int x5)]) hx hb dX7_ways_62 hl (k := 2) rfl rfl (by decide) rfl (fun ls hl => ?_)
                    refine lv_iload_n hx hb dX7_ways_65 rfl (lv_at hl 3 rfl) ?_
                    refine lv_bipush (v := -9) hx hb dX7_ways_66 (by decide) ?_
                    refine lv_icmp_ne (tgt := 82) hx hb dX7_ways_68 (by decide) (fun g27 => ?_) (fun g27 => ?_)
                    · rw [if_neg g27] at h
                      refine lv_iload_n hx hb dX7_ways_82 rfl (lv_at hl 3 rfl) ?_
                      refine lv_istore_n (lv' := [(3, .int x3), (2, .int (x2 + 1)), (0, .ref (q 0)), (1, .int x1), (4, .int x4), (5, .int x5)]) hx hb dX7_ways_83 rfl hl (by decide) rfl (fun ls hl => ?_)
                      refine lv_iinc (v := (x5 + 4)) (lv' := [(5, .int (x5 + 4)), (3, .int x3), (2, .int (x2 + 1)), (0, .ref (q 0)), (1, .int x1), (4, .int x4)]) hx hb dX7_ways_84 hl (k := 5) rfl rfl (by decide) rfl (fun ls hl => ?_)
                      refine lv_goto (tgt := 30) hx hb dX7_ways_87 (by decide) ?_
                      exact ih x1 (x2 + 1) x3 x4 (x5 + 4) ow2 ow3 ls h (lv_sub hl [3, 4, 2, 1, 5, 0] rfl)  hk
                    · rw [if_pos g27] at h
                      refine lv_bipush (v := 10) hx hb dX7_ways_71 (by decide) ?_
                      refine lv_iload hx hb dX7_ways_73 (lv_at hl 4 rfl) ?_
                      refine lv_imul hx hb dX7_ways_75 ?_
                      refine lv_iload hx hb dX7_ways_76 (lv_at hl 5 rfl) ?_
                      refine lv_iadd hx hb dX7_ways_78 ?_
                      refine lv_goto (tgt := 83) hx hb dX7_ways_79 (by decide) ?_
                      refine lv_istore_n (lv' := [(3, .int ((10 * x4) + x5)), (2, .int (x2 + 1)), (0, .ref (q 0)), (1, .int x1), (4, .int x4), (5, .int x5)]) hx hb dX7_ways_83 rfl hl (by decide) rfl (fun ls hl => ?_)
                      refine lv_iinc (v := (x5 + 4)) (lv' := [(5, .int (x5 + 4)), (3, .int ((10 * x4) + x5)), (2, .int (x2 + 1)), (0, .ref (q 0)), (1, .int x1), (4, .int x4)]) hx hb dX7_ways_84 hl (k := 5) rfl rfl (by decide) rfl (fun ls hl => ?_)
                      refine lv_goto (tgt := 30) hx hb dX7_ways_87 (by decide) ?_
                      exact ih x1 (x2 + 1) ((10 * x4) + x5) x4 (x5 + 4) ow2 ow3 ls h (lv_sub hl [3, 4, 2, 1, 5, 0] rfl)  hk
            obtain ⟨w29, w30, hc31, h⟩ := sh_b2_e h
            refine LP28 sh_fu x1 x2 x3 x4 4 w29 w30 ls hc31 (lv_sub hl [1, 2, 3, 4, 5, 0] rfl)  (fun ls hl  => ?_)
            refine lv_iinc (v := (x4 + 1)) (lv' := [(4, .int (x4 + 1)), (0, .ref (q 0)), (1, .int x1), (2, .int w29), (3, .int w30)]) hx hb dX7_ways_90 hl (k := 4) rfl rfl (by decide) rfl (fun ls hl => ?_)
            refine lv_goto (tgt := 20) hx hb dX7_ways_93 (by decide) ?_
            exact ih x1 w29 w30 (x4 + 1) ow2 ow3 ls h (lv_sub hl [1, 2, 3, 4, 0] rfl)  hk
      obtain ⟨w33, w34, hc36, h⟩ := sh_b2_e h
      refine LP32 sh_fu x1 0 (-9) 0 w33 w34 ls hc36 (lv_sub hl [3, 4, 2, 1, 0] rfl)  (fun ls hl  => ?_)
      refine lv_iload_n hx hb dX7_ways_96 rfl (lv_at hl 0 rfl) ?_
      refine lv_if_ne (tgt := 104) hx hb dX7_ways_97 (by decide) (fun g35 => ?_) (fun g35 => ?_)
      · rw [if_neg g35] at h
        refine lv_iload_n hx hb dX7_ways_104 rfl (lv_at hl 2 rfl) ?_
        exact sh_roi hx hb hr hlocks hQ (Option.some.inj h) dX7_ways_105
      · rw [if_pos g35] at h
        refine lv_iload_n hx hb dX7_ways_100 rfl (lv_at hl 1 rfl) ?_
        refine lv_goto (tgt := 105) hx hb dX7_ways_101 (by decide) ?_
        exact sh_roi hx hb hr hlocks hQ (Option.some.inj h) dX7_ways_105
    · rw [if_neg g19] at h
      refine lv_bipush (v := -2) hx hb dX7_ways_9 (by decide) ?_
      exact sh_roi hx hb hr hlocks hQ (Option.some.inj h) dX7_ways_11
theorem hdS_X7_power : yX7_power.cls ≠ "java/lang/invoke/MethodHandle" ∧ yX7_power.cls ≠ "java/lang/invoke/VarHandle" ∧ (parseMethodDescriptor yX7_power.desc).map (fun d => d.parameters.length) = some 2 := by decide +kernel
abbrev rmX7_power : Room := { frames := 0, cells := 0, slots := 0, locals := 0 }
set_option maxHeartbeats 4000000 in
set_option maxRecDepth 100000 in
theorem k_X7_power (l : Launch) (D : va_G) (cI cJ cZ : ClassId) (x0 : Int32) (x1 : Int32) (o : Int32) (h : fX7_power x0 x1 = some o) : Met l yX7_power wsX7_power rmX7_power (sh_Pr D (sh_ty cI cJ cZ) [] [.int x0, .int x1]) (vp_Si (fun z => z = o)) 0 0 (fun _ => False) := by
  refine Met.ofW (cc := cX7_power) (maxL := 4) (ret := (some .int)) (by decide) rfl ?_
  intro p e s m args below meth c s₁ hB hml hv
  obtain ⟨hargs, hP, hK⟩ := hv
  have hx := hB.exec
  have hb := hB.bytes
  have hr := hB.returns
  have hts := atoms_spec (ws := wsX7_power) hB.pre
  have hown : s.vm.findClass RX7 = some m.cls := findClass_of_methodNamed hB.named
  have hlocks := hB.notSynchronized
  have hfix : CallFix p m c cX7_power 4 s args wsX7_power RX7 := ⟨hx, hb, hml, hown, hts⟩
  rw [show entryFrame m args 4 = entryFrame m ([.int x0, .int x1] : List Value).toArray 4 by rw [hargs], lg_entry_eq]
  have hl := lv_entry ([.int x0, .int x1]) (n := 4) (Nat.le_of_ble_eq_true rfl)
  generalize (lg_sl ([.int x0, .int x1]) ++ List.replicate (4 - (lg_sl ([.int x0, .int x1])).length) Slot.unset).toArray = ls at hl ⊢
  have hl : lv_has ls 4 [(0, .int x0), (1, .int x1)] := hl
  generalize hQ : MQ below (vp_Si (fun z => z = o)) args s 0 0 (fun _ => False) = Q
  unfold fX7_power at h
  refine lv_iconst (v := 1) hx hb dX7_power_0 (by decide) ?_
  refine lv_istore_n (lv' := [(2, .int 1), (0, .int x0), (1, .int x1)]) hx hb dX7_power_1 rfl hl (by decide) rfl (fun ls hl => ?_)
  refine lv_iconst (v := 0) hx hb dX7_power_2 (by decide) ?_
  refine lv_istore_n (lv' := [(3, .int 0), (2, .int 1), (0, .int x0), (1, .int x1)]) hx hb dX7_power_3 rfl hl (by decide) rfl (fun ls hl => ?_)
  have LP3 : ∀ (n : Nat) (x0 : Int32) (x1 : Int32) (x2 : Int32) (x3 : Int32) (ow2 : Int32) (ls : Array Slot), fX7_power_L4 n x0 x1 x2 x3 = some ow2 → lv_has ls 4 [(0, .int x0), (1, .int x1), (2, .int x2), (3, .int x3)] → (∀ (ls : Array Slot), lv_has ls 4 [(2, .int ow2)] → W p l e (headSpec wsX7_power rmX7_power).room s m args below meth c s.heap [] 0 0 Q (F0 m 25 ls [])) → W p l e (headSpec wsX7_power rmX7_power).room s m args below meth c s.heap [] 0 0 Q (F0 m 4 ls []) := by
    intro n
    induction n with
    | zero =>
      intro x0 x1 x2 x3 ow2 ls h hl hk
      exact nomatch ((fX7_power_L4_z x0 x1 x2 x3).symm.trans h)
    | succ n ih =>
      intro x0 x1 x2 x3 ow2 ls h hl hk
      rw [fX7_power_L4_s] at h
      refine lv_iload_n hx hb dX7_power_4 rfl (lv_at hl 3 rfl) ?_
      refine lv_iload_n hx hb dX7_power_5 rfl (lv_at hl 1 rfl) ?_
      refine lv_icmp_ge (tgt := 25) hx hb dX7_power_6 (by decide) (fun g1 => ?_) (fun g1 => ?_)
      · rw [if_pos g1] at h
        cases h
        exact hk ls (lv_sub hl [2] rfl) 
      · rw [if_neg g1] at h
        refine lv_iload_n hx hb dX7_power_9 rfl (lv_at hl 3 rfl) ?_
        refine lv_bipush (v := 6) hx hb dX7_power_10 (by decide) ?_
        refine lv_icmp_ge (tgt := 25) hx hb dX7_power_12 (by decide) (fun g2 => ?_) (fun g2 => ?_)
        · rw [if_pos g2] at h
          cases h
          exact hk ls (lv_sub hl [2] rfl) 
        · rw [if_neg g2] at h
          refine lv_iload_n hx hb dX7_power_15 rfl (lv_at hl 2 rfl) ?_
          refine lv_iload_n hx hb dX7_power_16 rfl (lv_at hl 0 rfl) ?_
          refine lv_imul hx hb dX7_power_17 ?_
          refine lv_istore_n (lv' := [(2, .int (x2 * x0)), (0, .int x0), (1, .int x1), (3, .int x3)]) hx hb dX7_power_18 rfl hl (by decide) rfl (fun ls hl => ?_)
          refine lv_iinc (v := (x3 + 1)) (lv' := [(3, .int (x3 + 1)), (2, .int (x2 * x0)), (0, .int x0), (1, .int x1)]) hx hb dX7_power_19 hl (k := 3) rfl rfl (by decide) rfl (fun ls hl => ?_)
          refine lv_goto (tgt := 4) hx hb dX7_power_22 (by decide) ?_
          exact ih x0 x1 (x2 * x0) (x3 + 1) ow2 ls h (lv_sub hl [2, 3, 1, 0] rfl)  hk
  obtain ⟨w4, hc5, h⟩ := sh_b1_e h
  refine LP3 sh_fu x0 x1 1 0 w4 ls hc5 (lv_sub hl [2, 3, 1, 0] rfl)  (fun ls hl  => ?_)
  refine lv_iload_n hx hb dX7_power_25 rfl (lv_at hl 0 rfl) ?_
  exact sh_roi hx hb hr hlocks hQ (Option.some.inj h) dX7_power_26
theorem hdV_X7_fadedOut : yX7_fadedOut.cls = RX7 ∧ yX7_fadedOut.cls ≠ "java/lang/invoke/MethodHandle" ∧ yX7_fadedOut.cls ≠ "java/lang/invoke/VarHandle" ∧ (parseMethodDescriptor yX7_fadedOut.desc).map (fun d => d.parameters.length) = some 4 := by decide +kernel
abbrev rmX7_fadedOut : Room := { frames := 3, cells := 0, slots := 0, locals := 83 }
set_option maxHeartbeats 4000000 in
set_option maxRecDepth 100000 in
theorem k_X7_fadedOut (l : Launch) (D : va_G) (cI cJ cZ : ClassId) (q : Nat → Nat) (I : Nat → Int32) (J : Nat → Int64) (A : Nat → Nat → Int32) (B : Nat → Nat → Int64) (x1 : Int64) (x3 : Int64) (x5 : Int32) (x6 : Int32) (o : Int32) (h : fX7_fadedOut I J x1 x3 x5 x6 = some o) : Met l yX7_fadedOut wsX7_fadedOut rmX7_fadedOut (sh_Pr D (sh_ty cI cJ cZ) (sh_w7 q cI cJ cZ I J A B) [.ref (q 0), .long x1, .long x3, .int x5, .int x6]) (vp_Si (fun z => z = o)) 0 0 (fun _ => False) := by
  refine Met.ofW (cc := cX7_fadedOut) (maxL := 11) (ret := (some .int)) (by decide) rfl ?_
  intro p e s m args below meth c s₁ hB hml hv
  obtain ⟨hargs, hP, hK⟩ := hv
  have hx := hB.exec
  have hb := hB.bytes
  have hr := hB.returns
  have hts := atoms_spec (ws := wsX7_fadedOut) hB.pre
  have hown : s.vm.findClass RX7 = some m.cls := findClass_of_methodNamed hB.named
  have hlocks := hB.notSynchronized
  have hfix : CallFix p m c cX7_fadedOut 11 s args wsX7_fadedOut RX7 := ⟨hx, hb, hml, hown, hts⟩
  have hinX7 : ∀ w ∈ wsX70, w ∈ wsX7_fadedOut := by decide +kernel
  have lk1 := hts (.fieldLink RX7 19 "ShadeTree" "grid" "LShadeTree$Grid;") (by decide +kernel)
  have lk2 := hts (.constantLong RX7 169 (-1)) (by decide +kernel)
  rw [show entryFrame m args 11 = entryFrame m ([.ref (q 0), .long x1, .long x3, .int x5, .int x6] : List Value).toArray 11 by rw [hargs], lg_entry_eq]
  have hl := lv_entry ([.ref (q 0), .long x1, .long x3, .int x5, .int x6]) (n := 11) (Nat.le_of_ble_eq_true rfl)
  generalize (lg_sl ([.ref (q 0), .long x1, .long x3, .int x5, .int x6]) ++ List.replicate (11 - (lg_sl ([.ref (q 0), .long x1, .long x3, .int x5, .int x6])).length) Slot.unset).toArray = ls at hl ⊢
  have hl : lv_has ls 11 [(0, .ref (q 0)), (1, .long x1), (3, .long x3), (5, .int x5), (6, .int x6)] := hl
  generalize hQ : MQ below (vp_Si (fun z => z = o)) args s 0 0 (fun _ => False) = Q
  unfold fX7_fadedOut at h
  refine lv_iconst (v := 0) hx hb dX7_fadedOut_0 (by decide) ?_
  refine lv_istore (lv' := [(7, .int 0), (0, .ref (q 0)), (1, .long x1), (3, .long x3), (5, .int x5), (6, .int x6)]) hx hb dX7_fadedOut_1 hl (by decide) rfl (fun ls hl => ?_)
  refine lv_lload_n hx hb dX7_fadedOut_3 rfl (lv_at hl 3 rfl) ?_
  refine lv_lstore (lv' := [(8, .long x3), (7, .int 0), (0, .ref (q 0)), (1, .long x1), (3, .long x3), (5, .int x5), (6, .int x6)]) hx hb dX7_fadedOut_4 hl (by decide) rfl (fun ls hl => ?_)
  refine lv_iconst (v := 0) hx hb dX7_fadedOut_6 (by decide) ?_
  refine lv_istore (lv' := [(10, .int 0), (8, .long x3), (7, .int 0), (0, .ref (q 0)), (1, .long x1), (3, .long x3), (5, .int x5), (6, .int x6)]) hx hb dX7_fadedOut_7 hl (by decide) rfl (fun ls hl => ?_)
  have LP17 : ∀ (n : Nat) (x1 : Int64) (x3 : Int64) (x5 : Int32) (x6 : Int32) (x7 : Int32) (x8 : Int64) (x10 : Int32) (ow7 : Int32) (ls : Array Slot), fX7_fadedOut_L9 n x1 x3 x5 x6 x7 x8 x10 I J = some ow7 → lv_has ls 11 [(0, .ref (q 0)), (1, .long x1), (3, .long x3), (5, .int x5), (6, .int x6), (7, .int x7), (8, .long x8), (10, .int x10)] → (∀ (ls : Array Slot), lv_has ls 11 [(7, .int ow7)] → W p l e (headSpec wsX7_fadedOut rmX7_fadedOut).room s m args below meth c s.heap [] 0 0 Q (F0 m 102 ls [])) → W p l e (headSpec wsX7_fadedOut rmX7_fadedOut).room s m args below meth c s.heap [] 0 0 Q (F0 m 9 ls []) := by
    intro n
    induction n with
    | zero =>
      intro x1 x3 x5 x6 x7 x8 x10 ow7 ls h hl hk
      exact nomatch ((fX7_fadedOut_L9_z x1 x3 x5 x6 x7 x8 x10 I J).symm.trans h)
    | succ n ih =>
      intro x1 x3 x5 x6 x7 x8 x10 ow7 ls h hl hk
      rw [fX7_fadedOut_L9_s] at h
      refine lv_iload hx hb dX7_fadedOut_9 (lv_at hl 7 rfl) ?_
      refine lv_bipush (v := 64) hx hb dX7_fadedOut_11 (by decide) ?_
      refine lv_icmp_ge (tgt := 102) hx hb dX7_fadedOut_13 (by decide) (fun g1 => ?_) (fun g1 => ?_)
      · rw [if_pos g1] at h
        cases h
        exact hk ls (lv_sub hl [5] rfl) 
      · rw [if_neg g1] at h
        refine lv_aload_n hx hb dX7_fadedOut_16 rfl (lv_at hl 0 rfl) ?_
        refine va_get (ci := 7) (v := .ref (q 3)) (C := RX7) (T := TX7) (N := 10) hx hb hts hinX7 hown hK hP 0 rfl rfl 1 (by decide) lk1 (fun _ h9 => h9) rfl dX7_fadedOut_17 ?_
        refine lv_lload_n hx hb dX7_fadedOut_20 rfl (lv_at hl 1 rfl) ?_
        refine lv_lload hx hb dX7_fadedOut_21 (lv_at hl 6 rfl) ?_
        refine lv_ldc2 hx hb hown lk2 dX7_fadedOut_23 ?_
        refine lv_lxor hx hb dX7_fadedOut_26 ?_
        refine lv_land hx hb dX7_fadedOut_27 ?_
        refine lv_aload_n hx hb dX7_fadedOut_28 rfl (lv_at hl 0 rfl) ?_
        refine va_get (ci := 7) (v := .ref (q 3)) (C := RX7) (T := TX7) (N := 10) hx hb hts hinX7 hown hK hP 0 rfl rfl 1 (by decide) lk1 (fun _ h9 => h9) rfl dX7_fadedOut_29 ?_
        obtain ⟨v2, hc3, h⟩ := sh_b1_e h
        refine sh_cVi (As := []) (rest := [.long (x1 &&& (x8 ^^^ (-1))), .ref (q 3)]) hfix (k_X1_way l D cI cJ cZ (q 3) (I 1) (I 2) (I 3) (J 0) (J 1) (J 2) v2 hc3) (cwV 0 hts gX7_fadedOut_X1_way rfl rfl rfl hdV_X1_way ⟨Nat.le_of_ble_eq_true rfl, Nat.le_of_ble_eq_true rfl⟩) hP hK [3] rfl 3 rfl rfl rfl hl.1 rfl (Nat.le_of_ble_eq_true rfl) dX7_fadedOut_32 ⟨Nat.zero_le _, Nat.zero_le _⟩ ?_
        obtain ⟨v4, hc5, h⟩ := sh_b1_e h
        refine sh_cVi (As := [.long (x1 &&& (x8 ^^^ (-1))), .int v2]) (rest := []) hfix (k_X1_countParts l D cI cJ cZ (q 3) (I 1) (I 2) (I 3) (J 0) (J 1) (J 2) (x1 &&& (x8 ^^^ (-1))) v2 v4 hc5) (cwV 2 hts gX7_fadedOut_X1_countParts rfl rfl rfl hdV_X1_countParts ⟨Nat.le_of_ble_eq_true rfl, Nat.le_of_ble_eq_true rfl⟩) hP hK [3] rfl 3 rfl rfl rfl hl.1 rfl (Nat.le_of_ble_eq_true rfl) dX7_fadedOut_35 ⟨Nat.zero_le _, Nat.zero_le _⟩ ?_
        refine lv_iload hx hb dX7_fadedOut_38 (lv_at hl 3 rfl) ?_
        refine lv_icmp_lt (tgt := 78) hx hb dX7_fadedOut_40 (by decide) (fun g6 => ?_) (fun g6 => ?_)
        · rw [if_pos g6] at h
          refine lv_lload hx hb dX7_fadedOut_78 (lv_at hl 6 rfl) ?_
          refine lv_lconst (v := 0) hx hb dX7_fadedOut_80 (by decide) ?_
          refine sh_lne (tgt := 88) hx hb dX7_fadedOut_81 dX7_fadedOut_82 (by decide) (fun g7 => ?_) (fun g7 => ?_)
          · rw [if_neg g7] at h
            refine lv_lload hx hb dX7_fadedOut_88 (lv_at hl 6 rfl) ?_
            refine lv_lconst (v := 1) hx hb dX7_fadedOut_90 (by decide) ?_
            refine lv_lsub hx hb dX7_fadedOut_91 ?_
            refine lv_lload_n hx hb dX7_fadedOut_92 rfl (lv_at hl 2 rfl) ?_
            refine lv_land hx hb dX7_fadedOut_93 ?_
            refine lv_lstore (lv' := [(8, .long ((x8 - 1) &&& x3)), (0, .ref (q 0)), (1, .long x1), (3, .long x3), (5, .int x5), (6, .int x6), (7, .int x7), (10, .int x10)]) hx hb dX7_fadedOut_94 hl (by decide) rfl (fun ls hl => ?_)
            refine lv_iinc (v := (x10 + 1)) (lv' := [(10, .int (x10 + 1)), (8, .long ((x8 - 1) &&& x3)), (0, .ref (q 0)), (1, .long x1), (3, .long x3), (5, .int x5), (6, .int x6), (7, .int x7)]) hx hb dX7_fadedOut_96 hl (k := 7) rfl rfl (by decide) rfl (fun ls hl => ?_)
            refine lv_goto (tgt := 9) hx hb dX7_fadedOut_99 (by decide) ?_
            exact ih x1 x3 x5 x6 x7 ((x8 - 1) &&& x3) (x10 + 1) ow7 ls h (lv_sub hl [2, 3, 4, 5, 6, 7, 1, 0] rfl)  hk
          · rw [if_pos g7] at h
            refine lv_goto (tgt := 102) hx hb dX7_fadedOut_85 (by decide) ?_
            cases h
            exact hk ls (lv_sub hl [5] rfl) 
        · rw [if_neg g6] at h
          refine lv_iload hx hb dX7_fadedOut_43 (lv_at hl 5 rfl) ?_
          refine lv_iload hx hb dX7_fadedOut_45 (lv_at hl 4 rfl) ?_
          refine lv_lload hx hb dX7_fadedOut_47 (lv_at hl 6 rfl) ?_
          obtain ⟨v8, hc9, h⟩ := sh_b1_e h
          refine sh_cSi (As := [.long x8]) (rest := [.int x6, .int x7]) hfix (k_J13_bitCount_95d88 l D cI cJ cZ x8 v8 hc9) (va_cwS 1 hts gX7_fadedOut_J13_bitCount_95d88 rfl rfl rfl hdS_J13_bitCount_95d88 ⟨Nat.le_of_ble_eq_true rfl, Nat.le_of_ble_eq_true rfl⟩) hP hK [] rfl rfl hl.1 rfl (Nat.le_of_ble_eq_true rfl) dX7_fadedOut_49 ⟨Nat.zero_le _, Nat.zero_le _⟩ ?_
          obtain ⟨v10, hc11, h⟩ := sh_b1_e h
          refine sh_cSi (As := [.int x6, .int v8]) (rest := [.int x7]) hfix (k_X7_power l D cI cJ cZ x6 v8 v10 hc11) (va_cwS 2 hts gX7_fadedOut_X7_power rfl rfl rfl hdS_X7_power ⟨Nat.le_of_ble_eq_true rfl, Nat.le_of_ble_eq_true rfl⟩) hP hK [] rfl rfl hl.1 rfl (Nat.le_of_ble_eq_true rfl) dX7_fadedOut_52 ⟨Nat.zero_le _, Nat.zero_le _⟩ ?_
          refine lv_bipush (v := 10) hx hb dX7_fadedOut_55 (by decide) ?_
          refine lv_iload hx hb dX7_fadedOut_57 (lv_at hl 4 rfl) ?_
          refine lv_isub hx hb dX7_fadedOut_59 ?_
          refine lv_lload_n hx hb dX7_fadedOut_60 rfl (lv_at hl 2 rfl) ?_
          refine lv_lload hx hb dX7_fadedOut_61 (lv_at hl 6 rfl) ?_
          refine lv_ldc2 hx hb hown lk2 dX7_fadedOut_63 ?_
          refine lv_lxor hx hb dX7_fadedOut_66 ?_
          refine lv_land hx hb dX7_fadedOut_67 ?_
          obtain ⟨v12, hc13, h⟩ := sh_b1_e h
          refine sh_cSi (As := [.long (x3 &&& (x8 ^^^ (-1)))]) (rest := [.int (10 - x6), .int v10, .int x7]) hfix (k_J13_bitCount_95d88 l D cI cJ cZ (x3 &&& (x8 ^^^ (-1))) v12 hc13) (va_cwS 1 hts gX7_fadedOut_J13_bitCount_95d88 rfl rfl rfl hdS_J13_bitCount_95d88 ⟨Nat.le_of_ble_eq_true rfl, Nat.le_of_ble_eq_true rfl⟩) hP hK [] rfl rfl hl.1 rfl (Nat.le_of_ble_eq_true rfl) dX7_fadedOut_68 ⟨Nat.zero_le _, Nat.zero_le _⟩ ?_
          obtain ⟨v14, hc15, h⟩ := sh_b1_e h
          refine sh_cSi (As := [.int (10 - x6), .int v12]) (rest := [.int v10, .int x7]) hfix (k_X7_power l D cI cJ cZ (10 - x6) v12 v14 hc15) (va_cwS 2 hts gX7_fadedOut_X7_power rfl rfl rfl hdS_X7_power ⟨Nat.le_of_ble_eq_true rfl, Nat.le_of_ble_eq_true rfl⟩) hP hK [] rfl rfl hl.1 rfl (Nat.le_of_ble_eq_true rfl) dX7_fadedOut_71 ⟨Nat.zero_le _, Nat.zero_le _⟩ ?_
          refine lv_imul hx hb dX7_fadedOut_74 ?_
          refine lv_iadd hx hb dX7_fadedOut_75 ?_
          refine lv_istore (lv' := [(7, .int (x7 + (v10 * v14))), (0, .ref (q 0)), (1, .long x1), (3, .long x3), (5, .int x5), (6, .int x6), (8, .long x8), (10, .int x10)]) hx hb dX7_fadedOut_76 hl (by decide) rfl (fun ls hl => ?_)
          refine lv_lload hx hb dX7_fadedOut_78 (lv_at hl 6 rfl) ?_
          refine lv_lconst (v := 0) hx hb dX7_fadedOut_80 (by decide) ?_
          refine sh_lne (tgt := 88) hx hb dX7_fadedOut_81 dX7_fadedOut_82 (by decide) (fun g16 => ?_) (fun g16 => ?_)
          · rw [if_neg g16] at h
            refine lv_lload hx hb dX7_fadedOut_88 (lv_at hl 6 rfl) ?_
            refine lv_lconst (v := 1) hx hb dX7_fadedOut_90 (by decide) ?_
            refine lv_lsub hx hb dX7_fadedOut_91 ?_
            refine lv_lload_n hx hb dX7_fadedOut_92 rfl (lv_at hl 3 rfl) ?_
            refine lv_land hx hb dX7_fadedOut_93 ?_
            refine lv_lstore (lv' := [(8, .long ((x8 - 1) &&& x3)), (7, .int (x7 + (v10 * v14))), (0, .ref (q 0)), (1, .long x1), (3, .long x3), (5, .int x5), (6, .int x6), (10, .int x10)]) hx hb dX7_fadedOut_94 hl (by decide) rfl (fun ls hl => ?_)
            refine lv_iinc (v := (x10 + 1)) (lv' := [(10, .int (x10 + 1)), (8, .long ((x8 - 1) &&& x3)), (7, .int (x7 + (v10 * v14))), (0, .ref (q 0)), (1, .long x1), (3, .long x3), (5, .int x5), (6, .int x6)]) hx hb dX7_fadedOut_96 hl (k := 7) rfl rfl (by decide) rfl (fun ls hl => ?_)
            refine lv_goto (tgt := 9) hx hb dX7_fadedOut_99 (by decide) ?_
            exact ih x1 x3 x5 x6 (x7 + (v10 * v14)) ((x8 - 1) &&& x3) (x10 + 1) ow7 ls h (lv_sub hl [3, 4, 5, 6, 7, 2, 1, 0] rfl)  hk
          · rw [if_pos g16] at h
            refine lv_goto (tgt := 102) hx hb dX7_fadedOut_85 (by decide) ?_
            cases h
            exact hk ls (lv_sub hl [0] rfl) 
  obtain ⟨w18, hc19, h⟩ := sh_b1_e h
  refine LP17 sh_fu x1 x3 x5 x6 0 x3 0 w18 ls hc19 (lv_sub hl [3, 4, 5, 6, 7, 2, 1, 0] rfl)  (fun ls hl  => ?_)
  refine lv_iload hx hb dX7_fadedOut_102 (lv_at hl 0 rfl) ?_
  exact sh_roi hx hb hr hlocks hQ (Option.some.inj h) dX7_fadedOut_104
