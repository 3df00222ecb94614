theorem hdS_X8_spread : yX8_spread.cls ≠ "java/lang/invoke/MethodHandle" ∧ yX8_spread.cls ≠ "java/lang/invoke/VarHandle" ∧ (parseMethodDescriptor yX8_spread.desc).map (fun d => d.parameters.length) = some 4 := by decide +kernel
abbrev rmX8_spread : Room := { frames := 2, cells := 0, slots := 0, locals := 51 }
set_option maxHeartbeats 4000000 in
set_option maxRecDepth 100000 in
theorem k_X8_spread (l : Launch) (D : va_G) (cI cJ cZ : ClassId) (aA : Nat) (pA : Nat → Int32) (x1 : Int32) (x2 : Int64) (x4 : Int32) (o : Int64) (h : fX8_spread pA x1 x2 x4 = some o) : Met l yX8_spread wsX8_spread rmX8_spread (sh_Pr D (sh_ty cI cJ cZ) [(aA, .inl (cI, 39, .inl pA))] [.ref aA, .int x1, .long x2, .int x4]) (vp_Sl (fun z => z = o)) 0 0 (fun _ => False) := by
  refine Met.ofW (cc := cX8_spread) (maxL := 10) (ret := (some .long)) (by decide) rfl ?_
  intro p e s m args below meth c s₁ hB hml hv
  obtain ⟨hargs, hP, hK⟩ := hv
  have hx := hB.exec
  have hb := hB.bytes
  have hr := hB.returns
  have hts := atoms_spec (ws := wsX8_spread) hB.pre
  have hown : s.vm.findClass RX8 = some m.cls := findClass_of_methodNamed hB.named
  have hlocks := hB.notSynchronized
  have hfix : CallFix p m c cX8_spread 10 s args wsX8_spread RX8 := ⟨hx, hb, hml, hown, hts⟩
  have lk1 := hts (.constantLong RX8 67 (-1)) (by decide +kernel)
  rw [show entryFrame m args 10 = entryFrame m ([.ref aA, .int x1, .long x2, .int x4] : List Value).toArray 10 by rw [hargs], lg_entry_eq]
  have hl := lv_entry ([.ref aA, .int x1, .long x2, .int x4]) (n := 10) (Nat.le_of_ble_eq_true rfl)
  generalize (lg_sl ([.ref aA, .int x1, .long x2, .int x4]) ++ List.replicate (10 - (lg_sl ([.ref aA, .int x1, .long x2, .int x4])).length) Slot.unset).toArray = ls at hl ⊢
  have hl : lv_has ls 10 [(0, .ref aA), (1, .int x1), (2, .long x2), (4, .int x4)] := hl
  generalize hQ : MQ below (vp_Sl (fun z => z = o)) args s 0 0 (fun _ => False) = Q
  unfold fX8_spread at h
  refine lv_lload_n hx hb dX8_spread_0 rfl (lv_at hl 2 rfl) ?_
  refine lv_lconst (v := 1) hx hb dX8_spread_1 (by decide) ?_
  refine lv_iload_n hx hb dX8_spread_2 rfl (lv_at hl 1 rfl) ?_
  refine lv_lshl (v := (sh_lsl 1 x1)) hx hb dX8_spread_3 rfl ?_
  refine lv_land hx hb dX8_spread_4 ?_
  refine lv_lstore (lv' := [(5, .long (x2 &&& (sh_lsl 1 x1))), (0, .ref aA), (1, .int x1), (2, .long x2), (4, .int x4)]) hx hb dX8_spread_5 hl (by decide) rfl (fun ls hl => ?_)
  refine lv_lconst (v := 0) hx hb dX8_spread_7 (by decide) ?_
  refine lv_lstore (lv' := [(7, .long 0), (5, .long (x2 &&& (sh_lsl 1 x1))), (0, .ref aA), (1, .int x1), (2, .long x2), (4, .int x4)]) hx hb dX8_spread_8 hl (by decide) rfl (fun ls hl => ?_)
  have LP10 : ∀ (n : Nat) (x2 : Int64) (x4 : Int32) (x5 : Int64) (x7 : Int64) (ow5 : Int64) (ls : Array Slot), fX8_spread_L10 n x2 x4 x5 x7 pA = some ow5 → lv_has ls 10 [(0, .ref aA), (2, .long x2), (4, .int x4), (5, .long x5), (7, .long x7)] → (∀ (ls : Array Slot), lv_has ls 10 [(5, .long ow5)] → W p l e (headSpec wsX8_spread rmX8_spread).room s m args below meth c s.heap [] 0 0 Q (F0 m 71 ls [])) → W p l e (headSpec wsX8_spread rmX8_spread).room s m args below meth c s.heap [] 0 0 Q (F0 m 10 ls []) := by
    intro n
    induction n with
    | zero =>
      intro x2 x4 x5 x7 ow5 ls h hl hk
      exact nomatch ((fX8_spread_L10_z x2 x4 x5 x7 pA).symm.trans h)
    | succ n ih =>
      intro x2 x4 x5 x7 ow5 ls h hl hk
      rw [fX8_spread_L10_s] at h
      refine lv_lload hx hb dX8_spread_10 (lv_at hl 3 rfl) ?_
      refine lv_lload hx hb dX8_spread_12 (lv_at hl 4 rfl) ?_
      refine sh_leq (tgt := 71) hx hb dX8_spread_14 dX8_spread_15 (by decide) (fun g1 => ?_) (fun g1 => ?_)
      · rw [if_pos g1] at h
        cases h
        exact hk ls (lv_sub hl [3] rfl) 
      · rw [if_neg g1] at h
        refine lv_iconst (v := 0) hx hb dX8_spread_18 (by decide) ?_
        refine lv_istore (lv' := [(9, .int 0), (0, .ref aA), (2, .long x2), (4, .int x4), (5, .long x5), (7, .long x7)]) hx hb dX8_spread_19 hl (by decide) rfl (fun ls hl => ?_)
        have LP5 : ∀ (n : Nat) (x2 : Int64) (x4 : Int32) (x5 : Int64) (x7 : Int64) (x9 : Int32) (ow9 : Int32) (ls : Array Slot), fX8_spread_L21 n x2 x4 x5 x7 x9 = some ow9 → lv_has ls 10 [(0, .ref aA), (2, .long x2), (4, .int x4), (5, .long x5), (7, .long x7), (9, .int x9)] → (∀ (ls : Array Slot), lv_has ls 10 [(0, .ref aA), (2, .long x2), (4, .int x4), (5, .long x5), (7, .long x7), (9, .int ow9)] → W p l e (headSpec wsX8_spread rmX8_spread).room s m args below meth c s.heap [] 0 0 Q (F0 m 44 ls [])) → W p l e (headSpec wsX8_spread rmX8_spread).room s m args below meth c s.heap [] 0 0 Q (F0 m 21 ls []) := by
          intro n
          induction n with
          | zero =>
            intro x2 x4 x5 x7 x9 ow9 ls h hl hk
            exact nomatch ((fX8_spread_L21_z x2 x4 x5 x7 x9).symm.trans h)
          | succ n ih =>
            intro x2 x4 x5 x7 x9 ow9 ls h hl hk
            rw [fX8_spread_L21_s] at h
            refine lv_lload hx hb dX8_spread_21 (lv_at hl 3 rfl) ?_
            refine lv_lload hx hb dX8_spread_23 (lv_at hl 4 rfl) ?_
            refine lv_ldc2 hx hb hown lk1 dX8_spread_25 ?_
            refine lv_lxor hx hb dX8_spread_28 ?_
            refine lv_land hx hb dX8_spread_29 ?_
            refine lv_iload hx hb dX8_spread_30 (lv_at hl 5 rfl) ?_
            obtain ⟨v2, hc3, h⟩ := sh_b1_e h
            refine sh_cSi (As := [.long (x5 &&& (x7 ^^^ (-1))), .int x9]) (rest := []) hfix (k_X8_has l D cI cJ cZ (x5 &&& (x7 ^^^ (-1))) x9 v2 hc3) (va_cwS 2 hts gX8_spread_X8_has rfl rfl rfl hdS_X8_has ⟨Nat.le_of_ble_eq_true rfl, Nat.le_of_ble_eq_true rfl⟩) hP hK [] rfl rfl hl.1 rfl (Nat.le_of_ble_eq_true rfl) dX8_spread_32 ⟨Nat.zero_le _, Nat.zero_le _⟩ ?_
            refine lv_if_ne (tgt := 44) hx hb dX8_spread_35 (by decide) (fun g4 => ?_) (fun g4 => ?_)
            · rw [if_neg g4] at h
              cases h
              exact hk ls (lv_sub hl [0, 1, 2, 3, 4, 5] rfl) 
            · rw [if_pos g4] at h
              refine lv_iinc (v := (x9 + 1)) (lv' := [(9, .int (x9 + 1)), (0, .ref aA), (2, .long x2), (4, .int x4), (5, .long x5), (7, .long x7)]) hx hb dX8_spread_38 hl (k := 5) rfl rfl (by decide) rfl (fun ls hl => ?_)
              refine lv_goto (tgt := 21) hx hb dX8_spread_41 (by decide) ?_
              exact ih x2 x4 x5 x7 (x9 + 1) ow9 ls h (lv_sub hl [1, 2, 3, 4, 5, 0] rfl)  hk
        obtain ⟨w6, hc9, h⟩ := sh_b1_e h
        refine LP5 sh_fu x2 x4 x5 x7 0 w6 ls hc9 (lv_sub hl [1, 2, 3, 4, 5, 0] rfl)  (fun ls hl  => ?_)
        refine lv_lload hx hb dX8_spread_44 (lv_at hl 4 rfl) ?_
        refine lv_lconst (v := 1) hx hb dX8_spread_46 (by decide) ?_
        refine lv_iload hx hb dX8_spread_47 (lv_at hl 5 rfl) ?_
        refine lv_lshl (v := (sh_lsl 1 w6)) hx hb dX8_spread_49 rfl ?_
        refine lv_lor hx hb dX8_spread_50 ?_
        refine lv_lstore (lv' := [(7, .long (x7 ||| (sh_lsl 1 w6))), (0, .ref aA), (2, .long x2), (4, .int x4), (5, .long x5), (9, .int w6)]) hx hb dX8_spread_51 hl (by decide) rfl (fun ls hl => ?_)
        refine lv_lload hx hb dX8_spread_53 (lv_at hl 4 rfl) ?_
        refine lv_lload_n hx hb dX8_spread_55 rfl (lv_at hl 2 rfl) ?_
        refine lv_aload_n hx hb dX8_spread_56 rfl (lv_at hl 1 rfl) ?_
        refine lv_iload hx hb dX8_spread_57 (lv_at hl 5 rfl) ?_
        refine lv_iload hx hb dX8_spread_59 (lv_at hl 3 rfl) ?_
        obtain ⟨v7, hc8, h⟩ := sh_b1_e h
        refine sh_cSl (As := [.ref aA, .int w6, .int x4]) (rest := [.long x2, .long x5]) hfix (k_X8_around l D cI cJ cZ aA pA w6 x4 v7 hc8) (va_cwS 3 hts gX8_spread_X8_around rfl rfl rfl hdS_X8_around ⟨Nat.le_of_ble_eq_true rfl, Nat.le_of_ble_eq_true rfl⟩) hP hK [0] rfl rfl hl.1 rfl (Nat.le_of_ble_eq_true rfl) dX8_spread_61 ⟨Nat.zero_le _, Nat.zero_le _⟩ ?_
        refine lv_land hx hb dX8_spread_64 ?_
        refine lv_lor hx hb dX8_spread_65 ?_
        refine lv_lstore (lv' := [(5, .long (x5 ||| (x2 &&& v7))), (7, .long (x7 ||| (sh_lsl 1 w6))), (0, .ref aA), (2, .long x2), (4, .int x4), (9, .int w6)]) hx hb dX8_spread_66 hl (by decide) rfl (fun ls hl => ?_)
        refine lv_goto (tgt := 10) hx hb dX8_spread_68 (by decide) ?_
        exact ih x2 x4 (x5 ||| (x2 &&& v7)) (x7 ||| (sh_lsl 1 w6)) ow5 ls h (lv_sub hl [2, 3, 4, 0, 1] rfl)  hk
  obtain ⟨w11, hc12, h⟩ := sh_b1_e h
  refine LP10 sh_fu x2 x4 (x2 &&& (sh_lsl 1 x1)) 0 w11 ls hc12 (lv_sub hl [2, 4, 5, 1, 0] rfl)  (fun ls hl  => ?_)
  refine lv_lload hx hb dX8_spread_71 (lv_at hl 0 rfl) ?_
  exact sh_rol hx hb hr hlocks hQ (Option.some.inj h) dX8_spread_73
theorem hdS_X8_part : yX8_part.cls ≠ "java/lang/invoke/MethodHandle" ∧ yX8_part.cls ≠ "java/lang/invoke/VarHandle" ∧ (parseMethodDescriptor yX8_part.desc).map (fun d => d.parameters.length) = some 3 := by decide +kernel
abbrev rmX8_part : Room := { frames := 3, cells := 0, slots := 0, locals := 80 }
set_option maxHeartbeats 4000000 in
set_option maxRecDepth 100000 in
theorem k_X8_part (l : Launch) (D : va_G) (cI cJ cZ : ClassId) (aA : Nat) (pA : Nat → Int32) (x1 : Int32) (x2 : Int32) (o : Int64) (h : fX8_part pA x1 x2 = some o) : Met l yX8_part wsX8_part rmX8_part (sh_Pr D (sh_ty cI cJ cZ) [(aA, .inl (cI, 39, .inl pA))] [.ref aA, .int x1, .int x2]) (vp_Sl (fun z => z = o)) 0 0 (fun _ => False) := by
  refine Met.ofW (cc := cX8_part) (maxL := 3) (ret := (some .long)) (by decide) rfl ?_
  intro p e s m args below meth c s₁ hB hml hv
  obtain ⟨hargs, hP, hK⟩ := hv
  have hx := hB.exec
  have hb := hB.bytes
  have hr := hB.returns
  have hts := atoms_spec (ws := wsX8_part) hB.pre
  have hown : s.vm.findClass RX8 = some m.cls := findClass_of_methodNamed hB.named
  have hlocks := hB.notSynchronized
  have hfix : CallFix p m c cX8_part 3 s args wsX8_part RX8 := ⟨hx, hb, hml, hown, hts⟩
  have lk1 := hts (.constantLong RX8 67 (-1)) (by decide +kernel)
  rw [show entryFrame m args 3 = entryFrame m ([.ref aA, .int x1, .int x2] : List Value).toArray 3 by rw [hargs], lg_entry_eq]
  have hl := lv_entry ([.ref aA, .int x1, .int x2]) (n := 3) (Nat.le_of_ble_eq_true rfl)
  generalize (lg_sl ([.ref aA, .int x1, .int x2]) ++ List.replicate (3 - (lg_sl ([.ref aA, .int x1, .int x2])).length) Slot.unset).toArray = ls at hl ⊢
  have hl : lv_has ls 3 [(0, .ref aA), (1, .int x1), (2, .int x2)] := hl
  generalize hQ : MQ below (vp_Sl (fun z => z = o)) args s 0 0 (fun _ => False) = Q
  unfold fX8_part at h
  refine lv_aload_n hx hb dX8_part_0 rfl (lv_at hl 0 rfl) ?_
  refine lv_iload_n hx hb dX8_part_1 rfl (lv_at hl 1 rfl) ?_
  refine lv_aload_n hx hb dX8_part_2 rfl (lv_at hl 0 rfl) ?_
  refine lv_iload_n hx hb dX8_part_3 rfl (lv_at hl 2 rfl) ?_
  refine lv_ldc2 hx hb hown lk1 dX8_part_4 ?_
  obtain ⟨v1, hc2, h⟩ := sh_b1_e h
  refine sh_cSl (As := [.ref aA, .int x2, .long (-1)]) (rest := [.int x1, .ref aA]) hfix (k_X8_bright l D cI cJ cZ aA pA x2 (-1) v1 hc2) (va_cwS 3 hts gX8_part_X8_bright rfl rfl rfl hdS_X8_bright ⟨Nat.le_of_ble_eq_true rfl, Nat.le_of_ble_eq_true rfl⟩) hP hK [0] rfl rfl hl.1 rfl (Nat.le_of_ble_eq_true rfl) dX8_part_7 ⟨Nat.zero_le _, Nat.zero_le _⟩ ?_
  refine lv_aload_n hx hb dX8_part_10 rfl (lv_at hl 0 rfl) ?_
  refine lv_iconst (v := 0) hx hb dX8_part_11 (by decide) ?_
  refine sh_iald (v := (pA 0)) hx hb hK hP 0 0 rfl rfl ⟨by unfold vp_in; decide, rfl⟩ dX8_part_12 ?_
  obtain ⟨v3, hc4, h⟩ := sh_b1_e h
  refine sh_cSl (As := [.ref aA, .int x1, .long v1, .int (pA 0)]) (rest := []) hfix (k_X8_spread l D cI cJ cZ aA pA x1 v1 (pA 0) v3 hc4) (va_cwS 4 hts gX8_part_X8_spread rfl rfl rfl hdS_X8_spread ⟨Nat.le_of_ble_eq_true rfl, Nat.le_of_ble_eq_true rfl⟩) hP hK [0] rfl rfl hl.1 rfl (Nat.le_of_ble_eq_true rfl) dX8_part_13 ⟨Nat.zero_le _, Nat.zero_le _⟩ ?_
  exact sh_rol hx hb hr hlocks hQ (Option.some.inj h) dX8_part_16
theorem hdS_X8_partsOf : yX8_partsOf.cls ≠ "java/lang/invoke/MethodHandle" ∧ yX8_partsOf.cls ≠ "java/lang/invoke/VarHandle" ∧ (parseMethodDescriptor yX8_partsOf.desc).map (fun d => d.parameters.length) = some 3 := by decide +kernel
abbrev rmX8_partsOf : Room := { frames := 3, cells := 0, slots := 0, locals := 80 }
set_option maxHeartbeats 4000000 in
set_option maxRecDepth 100000 in
theorem k_X8_partsOf (l : Launch) (D : va_G) (cI cJ cZ : ClassId) (aA : Nat) (pA : Nat → Int32) (x1 : Int32) (x2 : Int64) (o : Int32) (h : fX8_partsOf pA x1 x2 = some o) : Met l yX8_partsOf wsX8_partsOf rmX8_partsOf (sh_Pr D (sh_ty cI cJ cZ) [(aA, .inl (cI, 39, .inl pA))] [.ref aA, .int x1, .long x2]) (vp_Si (fun z => z = o)) 0 0 (fun _ => False) := by
  refine Met.ofW (cc := cX8_partsOf) (maxL := 8) (ret := (some .int)) (by decide) rfl ?_
  intro p e s m args below meth c s₁ hB hml hv
  obtain ⟨hargs, hP, hK⟩ := hv
  have hx := hB.exec
  have hb := hB.bytes
  have hr := hB.returns
  have hts := atoms_spec (ws := wsX8_partsOf) hB.pre
  have hown : s.vm.findClass RX8 = some m.cls := findClass_of_methodNamed hB.named
  have hlocks := hB.notSynchronized
  have hfix : CallFix p m c cX8_partsOf 8 s args wsX8_partsOf RX8 := ⟨hx, hb, hml, hown, hts⟩
  have lk1 := hts (.constantLong RX8 67 (-1)) (by decide +kernel)
  rw [show entryFrame m args 8 = entryFrame m ([.ref aA, .int x1, .long x2] : List Value).toArray 8 by rw [hargs], lg_entry_eq]
  have hl := lv_entry ([.ref aA, .int x1, .long x2]) (n := 8) (Nat.le_of_ble_eq_true rfl)
  generalize (lg_sl ([.ref aA, .int x1, .long x2]) ++ List.replicate (8 - (lg_sl ([.ref aA, .int x1, .long x2])).length) Slot.unset).toArray = ls at hl ⊢
  have hl : lv_has ls 8 [(0, .ref aA), (1, .int x1), (2, .long x2)] := hl
  generalize hQ : MQ below (vp_Si (fun z => z = o)) args s 0 0 (fun _ => False) = Q
  unfold fX8_partsOf at h
  refine lv_aload_n hx hb dX8_partsOf_0 rfl (lv_at hl 0 rfl) ?_
  refine lv_iload_n hx hb dX8_partsOf_1 rfl (lv_at hl 1 rfl) ?_
  refine lv_lload_n hx hb dX8_partsOf_2 rfl (lv_at hl 2 rfl) ?_
  obtain ⟨v1, hc2, h⟩ := sh_b1_e h
  refine sh_cSl (As := [.ref aA, .int x1, .long x2]) (rest := []) hfix (k_X8_bright l D cI cJ cZ aA pA x1 x2 v1 hc2) (va_cwS 3 hts gX8_partsOf_X8_bright rfl rfl rfl hdS_X8_bright ⟨Nat.le_of_ble_eq_true rfl, Nat.le_of_ble_eq_true rfl⟩) hP hK [0] rfl rfl hl.1 rfl (Nat.le_of_ble_eq_true rfl) dX8_partsOf_3 ⟨Nat.zero_le _, Nat.zero_le _⟩ ?_
  refine lv_lstore (lv' := [(4, .long v1), (0, .ref aA), (1, .int x1), (2, .long x2)]) hx hb dX8_partsOf_6 hl (by decide) rfl (fun ls hl => ?_)
  refine lv_iconst (v := 0) hx hb dX8_partsOf_8 (by decide) ?_
  refine lv_istore (lv' := [(6, .int 0), (4, .long v1), (0, .ref aA), (1, .int x1), (2, .long x2)]) hx hb dX8_partsOf_9 hl (by decide) rfl (fun ls hl => ?_)
  refine lv_iconst (v := 0) hx hb dX8_partsOf_11 (by decide) ?_
  refine lv_istore (lv' := [(7, .int 0), (6, .int 0), (4, .long v1), (0, .ref aA), (1, .int x1), (2, .long x2)]) hx hb dX8_partsOf_12 hl (by decide) rfl (fun ls hl => ?_)
  have LP11 : ∀ (n : Nat) (x4 : Int64) (x6 : Int32) (x7 : Int32) (ow6 : Int32) (ls : Array Slot), fX8_partsOf_L14 n x4 x6 x7 pA = some ow6 → lv_has ls 8 [(0, .ref aA), (4, .long x4), (6, .int x6), (7, .int x7)] → (∀ (ls : Array Slot), lv_has ls 8 [(6, .int ow6)] → W p l e (headSpec wsX8_partsOf rmX8_partsOf).room s m args below meth c s.heap [] 0 0 Q (F0 m 62 ls [])) → W p l e (headSpec wsX8_partsOf rmX8_partsOf).room s m args below meth c s.heap [] 0 0 Q (F0 m 14 ls []) := by
    intro n
    induction n with
    | zero =>
      intro x4 x6 x7 ow6 ls h hl hk
      exact nomatch ((fX8_partsOf_L14_z x4 x6 x7 pA).symm.trans h)
    | succ n ih =>
      intro x4 x6 x7 ow6 ls h hl hk
      rw [fX8_partsOf_L14_s] at h
      refine lv_iload hx hb dX8_partsOf_14 (lv_at hl 3 rfl) ?_
      refine lv_aload_n hx hb dX8_partsOf_16 rfl (lv_at hl 0 rfl) ?_
      obtain ⟨v3, hc4, h⟩ := sh_b1_e h
      refine sh_cSi (As := [.ref aA]) (rest := [.int x7]) hfix (k_X8_dotsOf l D cI cJ cZ aA pA v3 hc4) (va_cwS 1 hts gX8_partsOf_X8_dotsOf rfl rfl rfl hdS_X8_dotsOf ⟨Nat.le_of_ble_eq_true rfl, Nat.le_of_ble_eq_true rfl⟩) hP hK [0] rfl rfl hl.1 rfl (Nat.le_of_ble_eq_true rfl) dX8_partsOf_17 ⟨Nat.zero_le _, Nat.zero_le _⟩ ?_
      refine lv_icmp_ge (tgt := 62) hx hb dX8_partsOf_20 (by decide) (fun g5 => ?_) (fun g5 => ?_)
      · rw [if_pos g5] at h
        cases h
        exact hk ls (lv_sub hl [2] rfl) 
      · rw [if_neg g5] at h
        refine lv_lload hx hb dX8_partsOf_23 (lv_at hl 1 rfl) ?_
        refine lv_iload hx hb dX8_partsOf_25 (lv_at hl 3 rfl) ?_
        obtain ⟨v6, hc7, h⟩ := sh_b1_e h
        refine sh_cSi (As := [.long x4, .int x7]) (rest := []) hfix (k_X8_has l D cI cJ cZ x4 x7 v6 hc7) (va_cwS 2 hts gX8_partsOf_X8_has rfl rfl rfl hdS_X8_has ⟨Nat.le_of_ble_eq_true rfl, Nat.le_of_ble_eq_true rfl⟩) hP hK [] rfl rfl hl.1 rfl (Nat.le_of_ble_eq_true rfl) dX8_partsOf_27 ⟨Nat.zero_le _, Nat.zero_le _⟩ ?_
        refine lv_if_eq (tgt := 56) hx hb dX8_partsOf_30 (by decide) (fun g8 => ?_) (fun g8 => ?_)
        · rw [if_pos g8] at h
          refine lv_iinc (v := (x7 + 1)) (lv' := [(7, .int (x7 + 1)), (0, .ref aA), (4, .long x4), (6, .int x6)]) hx hb dX8_partsOf_56 hl (k := 3) rfl rfl (by decide) rfl (fun ls hl => ?_)
          refine lv_goto (tgt := 14) hx hb dX8_partsOf_59 (by decide) ?_
          exact ih x4 x6 (x7 + 1) ow6 ls h (lv_sub hl [1, 2, 3, 0] rfl)  hk
        · rw [if_neg g8] at h
          refine lv_lload hx hb dX8_partsOf_33 (lv_at hl 1 rfl) ?_
          refine lv_aload_n hx hb dX8_partsOf_35 rfl (lv_at hl 0 rfl) ?_
          refine lv_iload hx hb dX8_partsOf_36 (lv_at hl 3 rfl) ?_
          refine lv_lload hx hb dX8_partsOf_38 (lv_at hl 1 rfl) ?_
          refine lv_aload_n hx hb dX8_partsOf_40 rfl (lv_at hl 0 rfl) ?_
          refine lv_iconst (v := 0) hx hb dX8_partsOf_41 (by decide) ?_
          refine sh_iald (v := (pA 0)) hx hb hK hP 0 0 rfl rfl ⟨by unfold vp_in; decide, rfl⟩ dX8_partsOf_42 ?_
          obtain ⟨v9, hc10, h⟩ := sh_b1_e h
          refine sh_cSl (As := [.ref aA, .int x7, .long x4, .int (pA 0)]) (rest := [.long x4]) hfix (k_X8_spread l D cI cJ cZ aA pA x7 x4 (pA 0) v9 hc10) (va_cwS 4 hts gX8_partsOf_X8_spread rfl rfl rfl hdS_X8_spread ⟨Nat.le_of_ble_eq_true rfl, Nat.le_of_ble_eq_true rfl⟩) hP hK [0] rfl rfl hl.1 rfl (Nat.le_of_ble_eq_true rfl) dX8_partsOf_43 ⟨Nat.zero_le _, Nat.zero_le _⟩ ?_
          refine lv_ldc2 hx hb hown lk1 dX8_partsOf_46 ?_
          refine lv_lxor hx hb dX8_partsOf_49 ?_
          refine lv_land hx hb dX8_partsOf_50 ?_
          refine lv_lstore (lv' := [(4, .long (x4 &&& (v9 ^^^ (-1)))), (0, .ref aA), (6, .int x6), (7, .int x7)]) hx hb dX8_partsOf_51 hl (by decide) rfl (fun ls hl => ?_)
          refine lv_iinc (v := (x6 + 1)) (lv' := [(6, .int (x6 + 1)), (4, .long (x4 &&& (v9 ^^^ (-1)))), (0, .ref aA), (7, .int x7)]) hx hb dX8_partsOf_53 hl (k := 2) rfl rfl (by decide) rfl (fun ls hl => ?_)
          refine lv_iinc (v := (x7 + 1)) (lv' := [(7, .int (x7 + 1)), (6, .int (x6 + 1)), (4, .long (x4 &&& (v9 ^^^ (-1)))), (0, .ref aA)]) hx hb dX8_partsOf_56 hl (k := 3) rfl rfl (by decide) rfl (fun ls hl => ?_)
          refine lv_goto (tgt := 14) hx hb dX8_partsOf_59 (by decide) ?_
          exact ih (x4 &&& (v9 ^^^ (-1))) (x6 + 1) (x7 + 1) ow6 ls h (lv_sub hl [3, 2, 1, 0] rfl)  hk
  obtain ⟨w12, hc13, h⟩ := sh_b1_e h
  refine LP11 sh_fu v1 0 0 w12 ls hc13 (lv_sub hl [3, 2, 1, 0] rfl)  (fun ls hl  => ?_)
  refine lv_iload hx hb dX8_partsOf_62 (lv_at hl 0 rfl) ?_
  exact sh_roi hx hb hr hlocks hQ (Option.some.inj h) dX8_partsOf_64
theorem hdS_X8_nodeOf : yX8_nodeOf.cls ≠ "java/lang/invoke/MethodHandle" ∧ yX8_nodeOf.cls ≠ "java/lang/invoke/VarHandle" ∧ (parseMethodDescriptor yX8_nodeOf.desc).map (fun d => d.parameters.length) = some 2 := by decide +kernel
abbrev rmX8_nodeOf : Room := { frames := 4, cells := 0, slots := 0, locals := 102 }
set_option maxHeartbeats 4000000 in
set_option maxRecDepth 100000 in
theorem k_X8_nodeOf (l : Launch) (D : va_G) (cI cJ cZ : ClassId) (aA : Nat) (pA : Nat → Int32) (x1 : Int32) (o : Int64) (h : fX8_nodeOf pA x1 = some o) : Met l yX8_nodeOf wsX8_nodeOf rmX8_nodeOf (sh_Pr D (sh_ty cI cJ cZ) [(aA, .inl (cI, 39, .inl pA))] [.ref aA, .int x1]) (vp_Sl (fun z => z = o)) 0 0 (fun _ => False) := by
  refine Met.ofW (cc := cX8_nodeOf) (maxL := 2) (ret := (some .long)) (by decide) rfl ?_
  intro p e s m args below meth c s₁ hB hml hv
  obtain ⟨hargs, hP, hK⟩ := hv
  have hx := hB.exec
  have hb := hB.bytes
  have hr := hB.returns
  have hts := atoms_spec (ws := wsX8_nodeOf) hB.pre
  have hown : s.vm.findClass RX8 = some m.cls := findClass_of_methodNamed hB.named
  have hlocks := hB.notSynchronized
  have hfix : CallFix p m c cX8_nodeOf 2 s args wsX8_nodeOf RX8 := ⟨hx, hb, hml, hown, hts⟩
  rw [show entryFrame m args 2 = entryFrame m ([.ref aA, .int x1] : List Value).toArray 2 by rw [hargs], lg_entry_eq]
  have hl := lv_entry ([.ref aA, .int x1]) (n := 2) (Nat.le_of_ble_eq_true rfl)
  generalize (lg_sl ([.ref aA, .int x1]) ++ List.replicate (2 - (lg_sl ([.ref aA, .int x1])).length) Slot.unset).toArray = ls at hl ⊢
  have hl : lv_has ls 2 [(0, .ref aA), (1, .int x1)] := hl
  generalize hQ : MQ below (vp_Sl (fun z => z = o)) args s 0 0 (fun _ => False) = Q
  unfold fX8_nodeOf at h
  refine lv_aload_n hx hb dX8_nodeOf_0 rfl (lv_at hl 0 rfl) ?_
  refine lv_iload_n hx hb dX8_nodeOf_1 rfl (lv_at hl 1 rfl) ?_
  refine lv_aload_n hx hb dX8_nodeOf_2 rfl (lv_at hl 0 rfl) ?_
  refine lv_iconst (v := 3) hx hb dX8_nodeOf_3 (by decide) ?_
  refine lv_iload_n hx hb dX8_nodeOf_4 rfl (lv_at hl 1 rfl) ?_
  refine lv_iadd hx hb dX8_nodeOf_5 ?_
  obtain ⟨v1, hcv1, h⟩ := sh_b1_e h
  refine sh_iald hx hb hK hP 0 0 rfl rfl (sh_ald_e hcv1) dX8_nodeOf_6 ?_
  obtain ⟨v2, hc3, h⟩ := sh_b1_e h
  refine sh_cSl (As := [.ref aA, .int x1, .int v1]) (rest := []) hfix (k_X8_part l D cI cJ cZ aA pA x1 v1 v2 hc3) (va_cwS 3 hts gX8_nodeOf_X8_part rfl rfl rfl hdS_X8_part ⟨Nat.le_of_ble_eq_true rfl, Nat.le_of_ble_eq_true rfl⟩) hP hK [0] rfl rfl hl.1 rfl (Nat.le_of_ble_eq_true rfl) dX8_nodeOf_7 ⟨Nat.zero_le _, Nat.zero_le _⟩ ?_
  exact sh_rol hx hb hr hlocks hQ (Option.some.inj h) dX8_nodeOf_10
theorem hdS_X8_level : yX8_level.cls ≠ "java/lang/invoke/MethodHandle" ∧ yX8_level.cls ≠ "java/lang/invoke/VarHandle" ∧ (parseMethodDescriptor yX8_level.desc).map (fun d => d.parameters.length) = some 2 := by decide +kernel
abbrev rmX8_level : Room := { frames := 1, cells := 0, slots := 0, locals := 22 }
set_option maxHeartbeats 4000000 in
set_option maxRecDepth 100000 in
theorem k_X8_level (l : Launch) (D : va_G) (cI cJ cZ : ClassId) (aA : Nat) (pA : Nat → Int32) (x1 : Int64) (o : Int32) (h : fX8_level pA x1 = some o) : Met l yX8_level wsX8_level rmX8_level (sh_Pr D (sh_ty cI cJ cZ) [(aA, .inl (cI, 39, .inl pA))] [.ref aA, .long x1]) (vp_Si (fun z => z = o)) 0 0 (fun _ => False) := by
  refine Met.ofW (cc := cX8_level) (maxL := 5) (ret := (some .int)) (by decide) rfl ?_
  intro p e s m args below meth c s₁ hB hml hv
  obtain ⟨hargs, hP, hK⟩ := hv
  have hx := hB.exec
  have hb := hB.bytes
  have hr := hB.returns
  have hts := atoms_spec (ws := wsX8_level) hB.pre
  have hown : s.vm.findClass RX8 = some m.cls := findClass_of_methodNamed hB.named
  have hlocks := hB.notSynchronized
  have hfix : CallFix p m c cX8_level 5 s args wsX8_level RX8 := ⟨hx, hb, hml, hown, hts⟩
  rw [show entryFrame m args 5 = entryFrame m ([.ref aA, .long x1] : List Value).toArray 5 by rw [hargs], lg_entry_eq]
  have hl := lv_entry ([.ref aA, .long x1]) (n := 5) (Nat.le_of_ble_eq_true rfl)
  generalize (lg_sl ([.ref aA, .long x1]) ++ List.replicate (5 - (lg_sl ([.ref aA, .long x1])).length) Slot.unset).toArray = ls at hl ⊢
  have hl : lv_has ls 5 [(0, .ref aA), (1, .long x1)] := hl
  generalize hQ : MQ below (vp_Si (fun z => z = o)) args s 0 0 (fun _ => False) = Q
  unfold fX8_level at h
  refine lv_bipush (v := 10) hx hb dX8_level_0 (by decide) ?_
  refine lv_istore_n (lv' := [(3, .int 10), (0, .ref aA), (1, .long x1)]) hx hb dX8_level_2 rfl hl (by decide) rfl (fun ls hl => ?_)
  refine lv_iconst (v := 0) hx hb dX8_level_3 (by decide) ?_
  refine lv_istore (lv' := [(4, .int 0), (3, .int 10), (0, .ref aA), (1, .long x1)]) hx hb dX8_level_4 hl (by decide) rfl (fun ls hl => ?_)
  have LP10 : ∀ (n : Nat) (x1 : Int64) (x3 : Int32) (x4 : Int32) (ow3 : Int32) (ls : Array Slot), fX8_level_L6 n x1 x3 x4 pA = some ow3 → lv_has ls 5 [(0, .ref aA), (1, .long x1), (3, .int x3), (4, .int x4)] → (∀ (ls : Array Slot), lv_has ls 5 [(3, .int ow3)] → W p l e (headSpec wsX8_level rmX8_level).room s m args below meth c s.heap [] 0 0 Q (F0 m 51 ls [])) → W p l e (headSpec wsX8_level rmX8_level).room s m args below meth c s.heap [] 0 0 Q (F0 m 6 ls []) := by
    intro n
    induction n with
    | zero =>
      intro x1 x3 x4 ow3 ls h hl hk
      exact nomatch ((fX8_level_L6_z x1 x3 x4 pA).symm.trans h)
    | succ n ih =>
      intro x1 x3 x4 ow3 ls h hl hk
      rw [fX8_level_L6_s] at h
      refine lv_iload hx hb dX8_level_6 (lv_at hl 3 rfl) ?_
      refine lv_aload_n hx hb dX8_level_8 rfl (lv_at hl 0 rfl) ?_
      obtain ⟨v1, hc2, h⟩ := sh_b1_e h
      refine sh_cSi (As := [.ref aA]) (rest := [.int x4]) hfix (k_X8_dotsOf l D cI cJ cZ aA pA v1 hc2) (va_cwS 1 hts gX8_level_X8_dotsOf rfl rfl rfl hdS_X8_dotsOf ⟨Nat.le_of_ble_eq_true rfl, Nat.le_of_ble_eq_true rfl⟩) hP hK [0] rfl rfl hl.1 rfl (Nat.le_of_ble_eq_true rfl) dX8_level_9 ⟨Nat.zero_le _, Nat.zero_le _⟩ ?_
      refine lv_icmp_ge (tgt := 51) hx hb dX8_level_12 (by decide) (fun g3 => ?_) (fun g3 => ?_)
      · rw [if_pos g3] at h
        cases h
        exact hk ls (lv_sub hl [2] rfl) 
      · rw [if_neg g3] at h
        refine lv_lload_n hx hb dX8_level_15 rfl (lv_at hl 1 rfl) ?_
        refine lv_iload hx hb dX8_level_16 (lv_at hl 3 rfl) ?_
        obtain ⟨v4, hc5, h⟩ := sh_b1_e h
        refine sh_cSi (As := [.long x1, .int x4]) (rest := []) hfix (k_X8_has l D cI cJ cZ x1 x4 v4 hc5) (va_cwS 2 hts gX8_level_X8_has rfl rfl rfl hdS_X8_has ⟨Nat.le_of_ble_eq_true rfl, Nat.le_of_ble_eq_true rfl⟩) hP hK [] rfl rfl hl.1 rfl (Nat.le_of_ble_eq_true rfl) dX8_level_18 ⟨Nat.zero_le _, Nat.zero_le _⟩ ?_
        refine lv_if_eq (tgt := 43) hx hb dX8_level_21 (by decide) (fun g6 => ?_) (fun g6 => ?_)
        · rw [if_pos g6] at h
          refine lv_iload_n hx hb dX8_level_43 rfl (lv_at hl 2 rfl) ?_
          refine lv_istore_n (lv' := [(3, .int x3), (0, .ref aA), (1, .long x1), (4, .int x4)]) hx hb dX8_level_44 rfl hl (by decide) rfl (fun ls hl => ?_)
          refine lv_iinc (v := (x4 + 1)) (lv' := [(4, .int (x4 + 1)), (3, .int x3), (0, .ref aA), (1, .long x1)]) hx hb dX8_level_45 hl (k := 3) rfl rfl (by decide) rfl (fun ls hl => ?_)
          refine lv_goto (tgt := 6) hx hb dX8_level_48 (by decide) ?_
          exact ih x1 x3 (x4 + 1) ow3 ls h (lv_sub hl [2, 3, 1, 0] rfl)  hk
        · rw [if_neg g6] at h
          refine lv_aload_n hx hb dX8_level_24 rfl (lv_at hl 0 rfl) ?_
          refine lv_iconst (v := 3) hx hb dX8_level_25 (by decide) ?_
          refine lv_iload hx hb dX8_level_26 (lv_at hl 3 rfl) ?_
          refine lv_iadd hx hb dX8_level_28 ?_
          obtain ⟨v7, hcv7, h⟩ := sh_b1_e h
          refine sh_iald hx hb hK hP 0 0 rfl rfl (sh_ald_e hcv7) dX8_level_29 ?_
          refine lv_iload_n hx hb dX8_level_30 rfl (lv_at hl 2 rfl) ?_
          refine lv_icmp_ge (tgt := 43) hx hb dX8_level_31 (by decide) (fun g8 => ?_) (fun g8 => ?_)
          · rw [if_pos g8] at h
            refine lv_iload_n hx hb dX8_level_43 rfl (lv_at hl 2 rfl) ?_
            refine lv_istore_n (lv' := [(3, .int x3), (0, .ref aA), (1, .long x1), (4, .int x4)]) hx hb dX8_level_44 rfl hl (by decide) rfl (fun ls hl => ?_)
            refine lv_iinc (v := (x4 + 1)) (lv' := [(4, .int (x4 + 1)), (3, .int x3), (0, .ref aA), (1, .long x1)]) hx hb dX8_level_45 hl (k := 3) rfl rfl (by decide) rfl (fun ls hl => ?_)
            refine lv_goto (tgt := 6) hx hb dX8_level_48 (by decide) ?_
            exact ih x1 x3 (x4 + 1) ow3 ls h (lv_sub hl [2, 3, 1, 0] rfl)  hk
          · rw [if_neg g8] at h
            refine lv_aload_n hx hb dX8_level_34 rfl (lv_at hl 0 rfl) ?_
            refine lv_iconst (v := 3) hx hb dX8_level_35 (by decide) ?_
            refine lv_iload hx hb dX8_level_36 (lv_at hl 3 rfl) ?_
            refine lv_iadd hx hb dX8_level_38 ?_
            obtain ⟨v9, hcv9, h⟩ := sh_b1_e h
            refine sh_iald hx hb hK hP 0 0 rfl rfl (sh_ald_e hcv9) dX8_level_39 ?_
            refine lv_goto (tgt := 44) hx hb dX8_level_40 (by decide) ?_
            refine lv_istore_n (lv' := [(3, .int v9), (0, .ref aA), (1, .long x1), (4, .int x4)]) hx hb dX8_level_44 rfl hl (by decide) rfl (fun ls hl => ?_)
            refine lv_iinc (v := (x4 + 1)) (lv' := [(4, .int (x4 + 1)), (3, .int v9), (0, .ref aA), (1, .long x1)]) hx hb dX8_level_45 hl (k := 3) rfl rfl (by decide) rfl (fun ls hl => ?_)
            refine lv_goto (tgt := 6) hx hb dX8_level_48 (by decide) ?_
            exact ih x1 v9 (x4 + 1) ow3 ls h (lv_sub hl [2, 3, 1, 0] rfl)  hk
  obtain ⟨w11, hc12, h⟩ := sh_b1_e h
  refine LP10 sh_fu x1 10 0 w11 ls hc12 (lv_sub hl [2, 3, 1, 0] rfl)  (fun ls hl  => ?_)
  refine lv_iload_n hx hb dX8_level_51 rfl (lv_at hl 0 rfl) ?_
  exact sh_roi hx hb hr hlocks hQ (Option.some.inj h) dX8_level_52
theorem hdS_X8_brightest : yX8_brightest.cls ≠ "java/lang/invoke/MethodHandle" ∧ yX8_brightest.cls ≠ "java/lang/invoke/VarHandle" ∧ (parseMethodDescriptor yX8_brightest.desc).map (fun d => d.parameters.length) = some 2 := by decide +kernel
abbrev rmX8_brightest : Room := { frames := 1, cells := 0, slots := 0, locals := 22 }
set_option maxHeartbeats 4000000 in
set_option maxRecDepth 100000 in
theorem k_X8_brightest (l : Launch) (D : va_G) (cI cJ cZ : ClassId) (aA : Nat) (pA : Nat → Int32) (x1 : Int64) (o : Int32) (h : fX8_brightest pA x1 = some o) : Met l yX8_brightest wsX8_brightest rmX8_brightest (sh_Pr D (sh_ty cI cJ cZ) [(aA, .inl (cI, 39, .inl pA))] [.ref aA, .long x1]) (vp_Si (fun z => z = o)) 0 0 (fun _ => False) := by
  refine Met.ofW (cc := cX8_brightest) (maxL := 5) (ret := (some .int)) (by decide) rfl ?_
  intro p e s m args below meth c s₁ hB hml hv
  obtain ⟨hargs, hP, hK⟩ := hv
  have hx := hB.exec
  have hb := hB.bytes
  have hr := hB.returns
  have hts := atoms_spec (ws := wsX8_brightest) hB.pre
  have hown : s.vm.findClass RX8 = some m.cls := findClass_of_methodNamed hB.named
  have hlocks := hB.notSynchronized
  have hfix : CallFix p m c cX8_brightest 5 s args wsX8_brightest RX8 := ⟨hx, hb, hml, hown, hts⟩
  rw [show entryFrame m args 5 = entryFrame m ([.ref aA, .long x1] : List Value).toArray 5 by rw [hargs], lg_entry_eq]
  have hl := lv_entry ([.ref aA, .long x1]) (n := 5) (Nat.le_of_ble_eq_true rfl)
  generalize (lg_sl ([.ref aA, .long x1]) ++ List.replicate (5 - (lg_sl ([.ref aA, .long x1])).length) Slot.unset).toArray = ls at hl ⊢
  have hl : lv_has ls 5 [(0, .ref aA), (1, .long x1)] := hl
  generalize hQ : MQ below (vp_Si (fun z => z = o)) args s 0 0 (fun _ => False) = Q
  unfold fX8_brightest at h
  refine lv_bipush (v := -9) hx hb dX8_brightest_0 (by decide) ?_
  refine lv_istore_n (lv' := [(3, .int (-9)), (0, .ref aA), (1, .long x1)]) hx hb dX8_brightest_2 rfl hl (by decide) rfl (fun ls hl => ?_)
  refine lv_iconst (v := 0) hx hb dX8_brightest_3 (by decide) ?_
  refine lv_istore (lv' := [(4, .int 0), (3, .int (-9)), (0, .ref aA), (1, .long x1)]) hx hb dX8_brightest_4 hl (by decide) rfl (fun ls hl => ?_)
  have LP10 : ∀ (n : Nat) (x1 : Int64) (x3 : Int32) (x4 : Int32) (ow3 : Int32) (ls : Array Slot), fX8_brightest_L6 n x1 x3 x4 pA = some ow3 → lv_has ls 5 [(0, .ref aA), (1, .long x1), (3, .int x3), (4, .int x4)] → (∀ (ls : Array Slot), lv_has ls 5 [(3, .int ow3)] → W p l e (headSpec wsX8_brightest rmX8_brightest).room s m args below meth c s.heap [] 0 0 Q (F0 m 51 ls [])) → W p l e (headSpec wsX8_brightest rmX8_brightest).room s m args below meth c s.heap [] 0 0 Q (F0 m 6 ls []) := by
    intro n
    induction n with
    | zero =>
      intro x1 x3 x4 ow3 ls h hl hk
      exact nomatch ((fX8_brightest_L6_z x1 x3 x4 pA).symm.trans h)
    | succ n ih =>
      intro x1 x3 x4 ow3 ls h hl hk
      rw [fX8_brightest_L6_s] at h
      refine lv_iload hx hb dX8_brightest_6 (lv_at hl 3 rfl) ?_
      refine lv_aload_n hx hb dX8_brightest_8 rfl (lv_at hl 0 rfl) ?_
      obtain ⟨v1, hc2, h⟩ := sh_b1_e h
      refine sh_cSi (As := [.ref aA]) (rest := [.int x4]) hfix (k_X8_dotsOf l D cI cJ cZ aA pA v1 hc2) (va_cwS 1 hts gX8_brightest_X8_dotsOf rfl rfl rfl hdS_X8_dotsOf ⟨Nat.le_of_ble_eq_true rfl, Nat.le_of_ble_eq_true rfl⟩) hP hK [0] rfl rfl hl.1 rfl (Nat.le_of_ble_eq_true rfl) dX8_brightest_9 ⟨Nat.zero_le _, Nat.zero_le _⟩ ?_
      refine lv_icmp_ge (tgt := 51) hx hb dX8_brightest_12 (by decide) (fun g3 => ?_) (fun g3 => ?_)
      · rw [if_pos g3] at h
        cases h
        exact hk ls (lv_sub hl [2] rfl) 
      · rw [if_neg g3] at h
        refine lv_lload_n hx hb dX8_brightest_15 rfl (lv_at hl 1 rfl) ?_
        refine lv_iload hx hb dX8_brightest_16 (lv_at hl 3 rfl) ?_
        obtain ⟨v4, hc5, h⟩ := sh_b1_e h
        refine sh_cSi (As := [.long x1, .int x4]) (rest := []) hfix (k_X8_has l D cI cJ cZ x1 x4 v4 hc5) (va_cwS 2 hts gX8_brightest_X8_has rfl rfl rfl hdS_X8_has ⟨Nat.le_of_ble_eq_true rfl, Nat.le_of_ble_eq_true rfl⟩) hP hK [] rfl rfl hl.1 rfl (Nat.le_of_ble_eq_true rfl) dX8_brightest_18 ⟨Nat.zero_le _, Nat.zero_le _⟩ ?_
        refine lv_if_eq (tgt := 43) hx hb dX8_brightest_21 (by decide) (fun g6 => ?_) (fun g6 => ?_)
        · rw [if_pos g6] at h
          refine lv_iload_n hx hb dX8_brightest_43 rfl (lv_at hl 2 rfl) ?_
          refine lv_istore_n (lv' := [(3, .int x3), (0, .ref aA), (1, .long x1), (4, .int x4)]) hx hb dX8_brightest_44 rfl hl (by decide) rfl (fun ls hl => ?_)
          refine lv_iinc (v := (x4 + 1)) (lv' := [(4, .int (x4 + 1)), (3, .int x3), (0, .ref aA), (1, .long x1)]) hx hb dX8_brightest_45 hl (k := 3) rfl rfl (by decide) rfl (fun ls hl => ?_)
          refine lv_goto (tgt := 6) hx hb dX8_brightest_48 (by decide) ?_
          exact ih x1 x3 (x4 + 1) ow3 ls h (lv_sub hl [2, 3, 1, 0] rfl)  hk
        · rw [if_neg g6] at h
          refine lv_aload_n hx hb dX8_brightest_24 rfl (lv_at hl 0 rfl) ?_
          refine lv_iconst (v := 3) hx hb dX8_brightest_25 (by decide) ?_
          refine lv_iload hx hb dX8_brightest_26 (lv_at hl 3 rfl) ?_
          refine lv_iadd hx hb dX8_brightest_28 ?_
          obtain ⟨v7, hcv7, h⟩ := sh_b1_e h
          refine sh_iald hx hb hK hP 0 0 rfl rfl (sh_ald_e hcv7) dX8_brightest_29 ?_
          refine lv_iload_n hx hb dX8_brightest_30 rfl (lv_at hl 2 rfl) ?_
          refine lv_icmp_le (tgt := 43) hx hb dX8_brightest_31 (by decide) (fun g8 => ?_) (fun g8 => ?_)
          · rw [if_pos g8] at h
            refine lv_iload_n hx hb dX8_brightest_43 rfl (lv_at hl 2 rfl) ?_
            refine lv_istore_n (lv' := [(3, .int x3), (0, .ref aA), (1, .long x1), (4, .int x4)]) hx hb dX8_brightest_44 rfl hl (by decide) rfl (fun ls hl => ?_)
            refine lv_iinc (v := (x4 + 1)) (lv' := [(4, .int (x4 + 1)), (3, .int x3), (0, .ref aA), (1, .long x1)]) hx hb dX8_brightest_45 hl (k := 3) rfl rfl (by decide) rfl (fun ls hl => ?_)
            refine lv_goto (tgt := 6) hx hb dX8_brightest_48 (by decide) ?_
            exact ih x1 x3 (x4 + 1) ow3 ls h (lv_sub hl [2, 3, 1, 0] rfl)  hk
          · rw [if_neg g8] at h
            refine lv_aload_n hx hb dX8_brightest_34 rfl (lv_at hl 0 rfl) ?_
            refine lv_iconst (v := 3) hx hb dX8_brightest_35 (by decide) ?_
            refine lv_iload hx hb dX8_brightest_36 (lv_at hl 3 rfl) ?_
            refine lv_iadd hx hb dX8_brightest_38 ?_
            obtain ⟨v9, hcv9, h⟩ := sh_b1_e h
            refine sh_iald hx hb hK hP 0 0 rfl rfl (sh_ald_e hcv9) dX8_brightest_39 ?_
            refine lv_goto (tgt := 44) hx hb dX8_brightest_40 (by decide) ?_
            refine lv_istore_n (lv' := [(3, .int v9), (0, .ref aA), (1, .long x1), (4, .int x4)]) hx hb dX8_brightest_44 rfl hl (by decide) rfl (fun ls hl => ?_)
            refine lv_iinc (v := (x4 + 1)) (lv' := [(4, .int (x4 + 1)), (3, .int v9), (0, .ref aA), (1, .long x1)]) hx hb dX8_brightest_45 hl (k := 3) rfl rfl (by decide) rfl (fun ls hl => ?_)
            refine lv_goto (tgt := 6) hx hb dX8_brightest_48 (by decide) ?_
            exact ih x1 v9 (x4 + 1) ow3 ls h (lv_sub hl [2, 3, 1, 0] rfl)  hk
  obtain ⟨w11, hc12, h⟩ := sh_b1_e h
  refine LP10 sh_fu x1 (-9) 0 w11 ls hc12 (lv_sub hl [2, 3, 1, 0] rfl)  (fun ls hl  => ?_)
  refine lv_iload_n hx hb dX8_brightest_51 rfl (lv_at hl 0 rfl) ?_
  exact sh_roi hx hb hr hlocks hQ (Option.some.inj h) dX8_brightest_52
theorem hdS_X8_head : yX8_head.cls ≠ "java/lang/invoke/MethodHandle" ∧ yX8_head.cls ≠ "java/lang/invoke/VarHandle" ∧ (parseMethodDescriptor yX8_head.desc).map (fun d => d.parameters.length) = some 2 := by decide +kernel
abbrev rmX8_head : Room := { frames := 2, cells := 0, slots := 0, locals := 46 }
set_option maxHeartbeats 4000000 in
set_option maxRecDepth 100000 in
theorem k_X8_head (l : Launch) (D : va_G) (cI cJ cZ : ClassId) (aA : Nat) (pA : Nat → Int32) (x1 : Int64) (o : Int32) (h : fX8_head pA x1 = some o) : Met l yX8_head wsX8_head rmX8_head (sh_Pr D (sh_ty cI cJ cZ) [(aA, .inl (cI, 39, .inl pA))] [.ref aA, .long x1]) (vp_Si (fun z => z = o)) 0 0 (fun _ => False) := by
  refine Met.ofW (cc := cX8_head) (maxL := 5) (ret := (some .int)) (by decide) rfl ?_
  intro p e s m args below meth c s₁ hB hml hv
  obtain ⟨hargs, hP, hK⟩ := hv
  have hx := hB.exec
  have hb := hB.bytes
  have hr := hB.returns
  have hts := atoms_spec (ws := wsX8_head) hB.pre
  have hown : s.vm.findClass RX8 = some m.cls := findClass_of_methodNamed hB.named
  have hlocks := hB.notSynchronized
  have hfix : CallFix p m c cX8_head 5 s args wsX8_head RX8 := ⟨hx, hb, hml, hown, hts⟩
  rw [show entryFrame m args 5 = entryFrame m ([.ref aA, .long x1] : List Value).toArray 5 by rw [hargs], lg_entry_eq]
  have hl := lv_entry ([.ref aA, .long x1]) (n := 5) (Nat.le_of_ble_eq_true rfl)
  generalize (lg_sl ([.ref aA, .long x1]) ++ List.replicate (5 - (lg_sl ([.ref aA, .long x1])).length) Slot.unset).toArray = ls at hl ⊢
  have hl : lv_has ls 5 [(0, .ref aA), (1, .long x1)] := hl
  generalize hQ : MQ below (vp_Si (fun z => z = o)) args s 0 0 (fun _ => False) = Q
  unfold fX8_head at h
  refine lv_aload_n hx hb dX8_head_0 rfl (lv_at hl 0 rfl) ?_
  refine lv_lload_n hx hb dX8_head_1 rfl (lv_at hl 1 rfl) ?_
  obtain ⟨v1, hc2, h⟩ := sh_b1_e h
  refine sh_cSi (As := [.ref aA, .long x1]) (rest := []) hfix (k_X8_level l D cI cJ cZ aA pA x1 v1 hc2) (va_cwS 2 hts gX8_head_X8_level rfl rfl rfl hdS_X8_level ⟨Nat.le_of_ble_eq_true rfl, Nat.le_of_ble_eq_true rfl⟩) hP hK [0] rfl rfl hl.1 rfl (Nat.le_of_ble_eq_true rfl) dX8_head_2 ⟨Nat.zero_le _, Nat.zero_le _⟩ ?_
  refine lv_istore_n (lv' := [(3, .int v1), (0, .ref aA), (1, .long x1)]) hx hb dX8_head_5 rfl hl (by decide) rfl (fun ls hl => ?_)
  refine lv_iconst (v := 0) hx hb dX8_head_6 (by decide) ?_
  refine lv_istore (lv' := [(4, .int 0), (3, .int v1), (0, .ref aA), (1, .long x1)]) hx hb dX8_head_7 hl (by decide) rfl (fun ls hl => ?_)
  have LP8 : ∀ (n : Nat) (x1 : Int64) (x3 : Int32) (x4 : Int32) (ow4 : Int32) (ls : Array Slot), fX8_head_L9 n x1 x3 x4 pA = some ow4 → lv_has ls 5 [(0, .ref aA), (1, .long x1), (3, .int x3), (4, .int x4)] → (∀ (ls : Array Slot), lv_has ls 5 [(4, .int ow4)] → W p l e (headSpec wsX8_head rmX8_head).room s m args below meth c s.heap [] 0 0 Q (F0 m 34 ls [])) → W p l e (headSpec wsX8_head rmX8_head).room s m args below meth c s.heap [] 0 0 Q (F0 m 9 ls []) := by
    intro n
    induction n with
    | zero =>
      intro x1 x3 x4 ow4 ls h hl hk
      exact nomatch ((fX8_head_L9_z x1 x3 x4 pA).symm.trans h)
    | succ n ih =>
      intro x1 x3 x4 ow4 ls h hl hk
      rw [fX8_head_L9_s] at h
      refine lv_lload_n hx hb dX8_head_9 rfl (lv_at hl 1 rfl) ?_
      refine lv_iload hx hb dX8_head_10 (lv_at hl 3 rfl) ?_
      obtain ⟨v3, hc4, h⟩ := sh_b1_e h
      refine sh_cSi (As := [.long x1, .int x4]) (rest := []) hfix (k_X8_has l D cI cJ cZ x1 x4 v3 hc4) (va_cwS 2 hts gX8_head_X8_has rfl rfl rfl hdS_X8_has ⟨Nat.le_of_ble_eq_true rfl, Nat.le_of_ble_eq_true rfl⟩) hP hK [] rfl rfl hl.1 rfl (Nat.le_of_ble_eq_true rfl) dX8_head_12 ⟨Nat.zero_le _, Nat.zero_le _⟩ ?_
      refine lv_if_eq (tgt := 28) hx hb dX8_head_15 (by decide) (fun g5 => ?_) (fun g5 => ?_)
      · rw [if_pos g5] at h
        refine lv_iinc (v := (x4 + 1)) (lv' := [(4, .int (x4 + 1)), (0, .ref aA), (1, .long x1), (3, .int x3)]) hx hb dX8_head_28 hl (k := 3) rfl rfl (by decide) rfl (fun ls hl => ?_)
        refine lv_goto (tgt := 9) hx hb dX8_head_31 (by decide) ?_
        exact ih x1 x3 (x4 + 1) ow4 ls h (lv_sub hl [1, 2, 3, 0] rfl)  hk
      · rw [if_neg g5] at h
        refine lv_aload_n hx hb dX8_head_18 rfl (lv_at hl 0 rfl) ?_
        refine lv_iconst (v := 3) hx hb dX8_head_19 (by decide) ?_
        refine lv_iload hx hb dX8_head_20 (lv_at hl 3 rfl) ?_
        refine lv_iadd hx hb dX8_head_22 ?_
        obtain ⟨v6, hcv6, h⟩ := sh_b1_e h
        refine sh_iald hx hb hK hP 0 0 rfl rfl (sh_ald_e hcv6) dX8_head_23 ?_
        refine lv_iload_n hx hb dX8_head_24 rfl (lv_at hl 2 rfl) ?_
        refine lv_icmp_eq (tgt := 34) hx hb dX8_head_25 (by decide) (fun g7 => ?_) (fun g7 => ?_)
        · rw [if_pos g7] at h
          cases h
          exact hk ls (lv_sub hl [3] rfl) 
        · rw [if_neg g7] at h
          refine lv_iinc (v := (x4 + 1)) (lv' := [(4, .int (x4 + 1)), (0, .ref aA), (1, .long x1), (3, .int x3)]) hx hb dX8_head_28 hl (k := 3) rfl rfl (by decide) rfl (fun ls hl => ?_)
          refine lv_goto (tgt := 9) hx hb dX8_head_31 (by decide) ?_
          exact ih x1 x3 (x4 + 1) ow4 ls h (lv_sub hl [1, 2, 3, 0] rfl)  hk
  obtain ⟨w9, hc10, h⟩ := sh_b1_e h
  refine LP8 sh_fu x1 v1 0 w9 ls hc10 (lv_sub hl [2, 3, 1, 0] rfl)  (fun ls hl  => ?_)
  refine lv_iload hx hb dX8_head_34 (lv_at hl 0 rfl) ?_
  exact sh_roi hx hb hr hlocks hQ (Option.some.inj h) dX8_head_36
theorem hdS_X8_parent : yX8_parent.cls ≠ "java/lang/invoke/MethodHandle" ∧ yX8_parent.cls ≠ "java/lang/invoke/VarHandle" ∧ (parseMethodDescriptor yX8_parent.desc).map (fun d => d.parameters.length) = some 2 := by decide +kernel
abbrev rmX8_parent : Room := { frames := 4, cells := 0, slots := 0, locals := 102 }
set_option maxHeartbeats 4000000 in
set_option maxRecDepth 100000 in
theorem k_X8_parent (l : Launch) (D : va_G) (cI cJ cZ : ClassId) (aA : Nat) (pA : Nat → Int32) (x1 : Int64) (o : Int64) (h : fX8_parent pA x1 = some o) : Met l yX8_parent wsX8_parent rmX8_parent (sh_Pr D (sh_ty cI cJ cZ) [(aA, .inl (cI, 39, .inl pA))] [.ref aA, .long x1]) (vp_Sl (fun z => z = o)) 0 0 (fun _ => False) := by
  refine Met.ofW (cc := cX8_parent) (maxL := 7) (ret := (some .long)) (by decide) rfl ?_
  intro p e s m args below meth c s₁ hB hml hv
  obtain ⟨hargs, hP, hK⟩ := hv
  have hx := hB.exec
  have hb := hB.bytes
  have hr := hB.returns
  have hts := atoms_spec (ws := wsX8_parent) hB.pre
  have hown : s.vm.findClass RX8 = some m.cls := findClass_of_methodNamed hB.named
  have hlocks := hB.notSynchronized
  have hfix : CallFix p m c cX8_parent 7 s args wsX8_parent RX8 := ⟨hx, hb, hml, hown, hts⟩
  rw [show entryFrame m args 7 = entryFrame m ([.ref aA, .long x1] : List Value).toArray 7 by rw [hargs], lg_entry_eq]
  have hl := lv_entry ([.ref aA, .long x1]) (n := 7) (Nat.le_of_ble_eq_true rfl)
  generalize (lg_sl ([.ref aA, .long x1]) ++ List.replicate (7 - (lg_sl ([.ref aA, .long x1])).length) Slot.unset).toArray = ls at hl ⊢
  have hl : lv_has ls 7 [(0, .ref aA), (1, .long x1)] := hl
  generalize hQ : MQ below (vp_Sl (fun z => z = o)) args s 0 0 (fun _ => False) = Q
  unfold fX8_parent at h
  refine lv_aload_n hx hb dX8_parent_0 rfl (lv_at hl 0 rfl) ?_
  refine lv_lload_n hx hb dX8_parent_1 rfl (lv_at hl 1 rfl) ?_
  obtain ⟨v1, hc2, h⟩ := sh_b1_e h
  refine sh_cSi (As := [.ref aA, .long x1]) (rest := []) hfix (k_X8_head l D cI cJ cZ aA pA x1 v1 hc2) (va_cwS 2 hts gX8_parent_X8_head rfl rfl rfl hdS_X8_head ⟨Nat.le_of_ble_eq_true rfl, Nat.le_of_ble_eq_true rfl⟩) hP hK [0] rfl rfl hl.1 rfl (Nat.le_of_ble_eq_true rfl) dX8_parent_2 ⟨Nat.zero_le _, Nat.zero_le _⟩ ?_
  refine lv_istore_n (lv' := [(3, .int v1), (0, .ref aA), (1, .long x1)]) hx hb dX8_parent_5 rfl hl (by decide) rfl (fun ls hl => ?_)
  refine lv_lload_n hx hb dX8_parent_6 rfl (lv_at hl 2 rfl) ?_
  refine lv_lstore (lv' := [(4, .long x1), (3, .int v1), (0, .ref aA), (1, .long x1)]) hx hb dX8_parent_7 hl (by decide) rfl (fun ls hl => ?_)
  refine lv_aload_n hx hb dX8_parent_9 rfl (lv_at hl 2 rfl) ?_
  refine lv_lload_n hx hb dX8_parent_10 rfl (lv_at hl 3 rfl) ?_
  obtain ⟨v3, hc4, h⟩ := sh_b1_e h
  refine sh_cSi (As := [.ref aA, .long x1]) (rest := []) hfix (k_X8_level l D cI cJ cZ aA pA x1 v3 hc4) (va_cwS 2 hts gX8_parent_X8_level rfl rfl rfl hdS_X8_level ⟨Nat.le_of_ble_eq_true rfl, Nat.le_of_ble_eq_true rfl⟩) hP hK [0] rfl rfl hl.1 rfl (Nat.le_of_ble_eq_true rfl) dX8_parent_11 ⟨Nat.zero_le _, Nat.zero_le _⟩ ?_
  refine lv_iconst (v := 1) hx hb dX8_parent_14 (by decide) ?_
  refine lv_isub hx hb dX8_parent_15 ?_
  refine lv_istore (lv' := [(6, .int (v3 - 1)), (4, .long x1), (3, .int v1), (0, .ref aA), (1, .long x1)]) hx hb dX8_parent_16 hl (by decide) rfl (fun ls hl => ?_)
  have LP9 : ∀ (n : Nat) (x1 : Int64) (x3 : Int32) (x4 : Int64) (x6 : Int32) (ow4 : Int64) (ls : Array Slot), fX8_parent_L18 n x1 x3 x4 x6 pA = some ow4 → lv_has ls 7 [(0, .ref aA), (1, .long x1), (3, .int x3), (4, .long x4), (6, .int x6)] → (∀ (ls : Array Slot), lv_has ls 7 [(4, .long ow4)] → W p l e (headSpec wsX8_parent rmX8_parent).room s m args below meth c s.heap [] 0 0 Q (F0 m 45 ls [])) → W p l e (headSpec wsX8_parent rmX8_parent).room s m args below meth c s.heap [] 0 0 Q (F0 m 18 ls []) := by
    intro n
    induction n with
    | zero =>
      intro x1 x3 x4 x6 ow4 ls h hl hk
      exact nomatch ((fX8_parent_L18_z x1 x3 x4 x6 pA).symm.trans h)
    | succ n ih =>
      intro x1 x3 x4 x6 ow4 ls h hl hk
      rw [fX8_parent_L18_s] at h
      refine lv_iload hx hb dX8_parent_18 (lv_at hl 4 rfl) ?_
      refine lv_if_lt (tgt := 45) hx hb dX8_parent_20 (by decide) (fun g5 => ?_) (fun g5 => ?_)
      · rw [if_pos g5] at h
        cases h
        exact hk ls (lv_sub hl [3] rfl) 
      · rw [if_neg g5] at h
        refine lv_lload hx hb dX8_parent_23 (lv_at hl 3 rfl) ?_
        refine lv_lload_n hx hb dX8_parent_25 rfl (lv_at hl 1 rfl) ?_
        refine sh_lne (tgt := 45) hx hb dX8_parent_26 dX8_parent_27 (by decide) (fun g6 => ?_) (fun g6 => ?_)
        · rw [if_neg g6] at h
          cases h
          exact hk ls (lv_sub hl [3] rfl) 
        · rw [if_pos g6] at h
          refine lv_aload_n hx hb dX8_parent_30 rfl (lv_at hl 0 rfl) ?_
          refine lv_iload_n hx hb dX8_parent_31 rfl (lv_at hl 2 rfl) ?_
          refine lv_iload hx hb dX8_parent_32 (lv_at hl 4 rfl) ?_
          obtain ⟨v7, hc8, h⟩ := sh_b1_e h
          refine sh_cSl (As := [.ref aA, .int x3, .int x6]) (rest := []) hfix (k_X8_part l D cI cJ cZ aA pA x3 x6 v7 hc8) (va_cwS 3 hts gX8_parent_X8_part rfl rfl rfl hdS_X8_part ⟨Nat.le_of_ble_eq_true rfl, Nat.le_of_ble_eq_true rfl⟩) hP hK [0] rfl rfl hl.1 rfl (Nat.le_of_ble_eq_true rfl) dX8_parent_34 ⟨Nat.zero_le _, Nat.zero_le _⟩ ?_
          refine lv_lstore (lv' := [(4, .long v7), (0, .ref aA), (1, .long x1), (3, .int x3), (6, .int x6)]) hx hb dX8_parent_37 hl (by decide) rfl (fun ls hl => ?_)
          refine lv_iinc (v := (x6 + (-1))) (lv' := [(6, .int (x6 + (-1))), (4, .long v7), (0, .ref aA), (1, .long x1), (3, .int x3)]) hx hb dX8_parent_39 hl (k := 4) rfl rfl (by decide) rfl (fun ls hl => ?_)
          refine lv_goto (tgt := 18) hx hb dX8_parent_42 (by decide) ?_
          exact ih x1 x3 v7 (x6 + (-1)) ow4 ls h (lv_sub hl [2, 3, 4, 1, 0] rfl)  hk
  obtain ⟨w10, hc11, h⟩ := sh_b1_e h
  refine LP9 sh_fu x1 v1 x1 (v3 - 1) w10 ls hc11 (lv_sub hl [3, 4, 2, 1, 0] rfl)  (fun ls hl  => ?_)
  refine lv_lload hx hb dX8_parent_45 (lv_at hl 0 rfl) ?_
  exact sh_rol hx hb hr hlocks hQ (Option.some.inj h) dX8_parent_47
theorem hdS_X8_isHead : yX8_isHead.cls ≠ "java/lang/invoke/MethodHandle" ∧ yX8_isHead.cls ≠ "java/lang/invoke/VarHandle" ∧ (parseMethodDescriptor yX8_isHead.desc).map (fun d => d.parameters.length) = some 2 := by decide +kernel
abbrev rmX8_isHead : Room := { frames := 5, cells := 0, slots := 0, locals := 123 }
set_option maxHeartbeats 4000000 in
set_option maxRecDepth 100000 in
theorem k_X8_isHead (l : Launch) (D : va_G) (cI cJ cZ : ClassId) (aA : Nat) (pA : Nat → Int32) (x1 : Int32) (o : Int32) (h : fX8_isHead pA x1 = some o) : Met l yX8_isHead wsX8_isHead rmX8_isHead (sh_Pr D (sh_ty cI cJ cZ) [(aA, .inl (cI, 39, .inl pA))] [.ref aA, .int x1]) (vp_Si (fun z => z = o)) 0 0 (fun _ => False) := by
  refine Met.ofW (cc := cX8_isHead) (maxL := 2) (ret := (some .boolean)) (by decide) rfl ?_
  intro p e s m args below meth c s₁ hB hml hv
  obtain ⟨hargs, hP, hK⟩ := hv
  have hx := hB.exec
  have hb := hB.bytes
  have hr := hB.returns
  have hts := atoms_spec (ws := wsX8_isHead) hB.pre
  have hown : s.vm.findClass RX8 = some m.cls := findClass_of_methodNamed hB.named
  have hlocks := hB.notSynchronized
  have hfix : CallFix p m c cX8_isHead 2 s args wsX8_isHead RX8 := ⟨hx, hb, hml, hown, hts⟩
  rw [show entryFrame m args 2 = entryFrame m ([.ref aA, .int x1] : List Value).toArray 2 by rw [hargs], lg_entry_eq]
  have hl := lv_entry ([.ref aA, .int x1]) (n := 2) (Nat.le_of_ble_eq_true rfl)
  generalize (lg_sl ([.ref aA, .int x1]) ++ List.replicate (2 - (lg_sl ([.ref aA, .int x1])).length) Slot.unset).toArray = ls at hl ⊢
  have hl : lv_has ls 2 [(0, .ref aA), (1, .int x1)] := hl
  generalize hQ : MQ below (vp_Si (fun z => z = o)) args s 0 0 (fun _ => False) = Q
  unfold fX8_isHead at h
  refine lv_aload_n hx hb dX8_isHead_0 rfl (lv_at hl 0 rfl) ?_
  refine lv_aload_n hx hb dX8_isHead_1 rfl (lv_at hl 0 rfl) ?_
  refine lv_iload_n hx hb dX8_isHead_2 rfl (lv_at hl 1 rfl) ?_
  obtain ⟨v1, hc2, h⟩ := sh_b1_e h
  refine sh_cSl (As := [.ref aA, .int x1]) (rest := [.ref aA]) hfix (k_X8_nodeOf l D cI cJ cZ aA pA x1 v1 hc2) (va_cwS 2 hts gX8_isHead_X8_nodeOf rfl rfl rfl hdS_X8_nodeOf ⟨Nat.le_of_ble_eq_true rfl, Nat.le_of_ble_eq_true rfl⟩) hP hK [0] rfl rfl hl.1 rfl (Nat.le_of_ble_eq_true rfl) dX8_isHead_3 ⟨Nat.zero_le _, Nat.zero_le _⟩ ?_
  obtain ⟨v3, hc4, h⟩ := sh_b1_e h
  refine sh_cSi (As := [.ref aA, .long v1]) (rest := []) hfix (k_X8_head l D cI cJ cZ aA pA v1 v3 hc4) (va_cwS 2 hts gX8_isHead_X8_head rfl rfl rfl hdS_X8_head ⟨Nat.le_of_ble_eq_true rfl, Nat.le_of_ble_eq_true rfl⟩) hP hK [0] rfl rfl hl.1 rfl (Nat.le_of_ble_eq_true rfl) dX8_isHead_6 ⟨Nat.zero_le _, Nat.zero_le _⟩ ?_
  refine lv_iload_n hx hb dX8_isHead_9 rfl (lv_at hl 1 rfl) ?_
  refine lv_icmp_ne (tgt := 17) hx hb dX8_isHead_10 (by decide) (fun g5 => ?_) (fun g5 => ?_)
  · rw [if_neg g5] at h
    refine lv_iconst (v := 0) hx hb dX8_isHead_17 (by decide) ?_
    exact sh_roz hx hb hr hlocks hQ ⟨rfl, (Option.some.inj h)⟩ dX8_isHead_18
  · rw [if_pos g5] at h
    refine lv_iconst (v := 1) hx hb dX8_isHead_13 (by decide) ?_
    refine lv_goto (tgt := 18) hx hb dX8_isHead_14 (by decide) ?_
    exact sh_roz hx hb hr hlocks hQ ⟨rfl, (Option.some.inj h)⟩ dX8_isHead_18
theorem hdS_X8_nodes : yX8_nodes.cls ≠ "java/lang/invoke/MethodHandle" ∧ yX8_nodes.cls ≠ "java/lang/invoke/VarHandle" ∧ (parseMethodDescriptor yX8_nodes.desc).map (fun d => d.parameters.length) = some 1 := by decide +kernel
abbrev rmX8_nodes : Room := { frames := 6, cells := 0, slots := 0, locals := 144 }
set_option maxHeartbeats 4000000 in
set_option maxRecDepth 100000 in
theorem k_X8_nodes (l : Launch) (D : va_G) (cI cJ cZ : ClassId) (aA : Nat) (pA : Nat → Int32) (o : Int32) (h : fX8_nodes pA = some o) : Met l yX8_nodes wsX8_nodes rmX8_nodes (sh_Pr D (sh_ty cI cJ cZ) [(aA, .inl (cI, 39, .inl pA))] [.ref aA]) (vp_Si (fun z => z = o)) 0 0 (fun _ => False) := by
  refine Met.ofW (cc := cX8_nodes) (maxL := 3) (ret := (some .int)) (by decide) rfl ?_
  intro p e s m args below meth c s₁ hB hml hv
  obtain ⟨hargs, hP, hK⟩ := hv
  have hx := hB.exec
  have hb := hB.bytes
  have hr := hB.returns
  have hts := atoms_spec (ws := wsX8_nodes) hB.pre
  have hown : s.vm.findClass RX8 = some m.cls := findClass_of_methodNamed hB.named
  have hlocks := hB.notSynchronized
  have hfix : CallFix p m c cX8_nodes 3 s args wsX8_nodes RX8 := ⟨hx, hb, hml, hown, hts⟩
  rw [show entryFrame m args 3 = entryFrame m ([.ref aA] : List Value).toArray 3 by rw [hargs], lg_entry_eq]
  have hl := lv_entry ([.ref aA]) (n := 3) (Nat.le_of_ble_eq_true rfl)
  generalize (lg_sl ([.ref aA]) ++ List.replicate (3 - (lg_sl ([.ref aA])).length) Slot.unset).toArray = ls at hl ⊢
  have hl : lv_has ls 3 [(0, .ref aA)] := hl
  generalize hQ : MQ below (vp_Si (fun z => z = o)) args s 0 0 (fun _ => False) = Q
  unfold fX8_nodes at h
  refine lv_iconst (v := 0) hx hb dX8_nodes_0 (by decide) ?_
  refine lv_istore_n (lv' := [(1, .int 0), (0, .ref aA)]) hx hb dX8_nodes_1 rfl hl (by decide) rfl (fun ls hl => ?_)
  refine lv_iconst (v := 0) hx hb dX8_nodes_2 (by decide) ?_
  refine lv_istore_n (lv' := [(2, .int 0), (1, .int 0), (0, .ref aA)]) hx hb dX8_nodes_3 rfl hl (by decide) rfl (fun ls hl => ?_)
  have LP7 : ∀ (n : Nat) (x1 : Int32) (x2 : Int32) (ow1 : Int32) (ls : Array Slot), fX8_nodes_L4 n x1 x2 pA = some ow1 → lv_has ls 3 [(0, .ref aA), (1, .int x1), (2, .int x2)] → (∀ (ls : Array Slot), lv_has ls 3 [(1, .int ow1)] → W p l e (headSpec wsX8_nodes rmX8_nodes).room s m args below meth c s.heap [] 0 0 Q (F0 m 34 ls [])) → W p l e (headSpec wsX8_nodes rmX8_nodes).room s m args below meth c s.heap [] 0 0 Q (F0 m 4 ls []) := by
    intro n
    induction n with
    | zero =>
      intro x1 x2 ow1 ls h hl hk
      exact nomatch ((fX8_nodes_L4_z x1 x2 pA).symm.trans h)
    | succ n ih =>
      intro x1 x2 ow1 ls h hl hk
      rw [fX8_nodes_L4_s] at h
      refine lv_iload_n hx hb dX8_nodes_4 rfl (lv_at hl 2 rfl) ?_
      refine lv_aload_n hx hb dX8_nodes_5 rfl (lv_at hl 0 rfl) ?_
      obtain ⟨v1, hc2, h⟩ := sh_b1_e h
      refine sh_cSi (As := [.ref aA]) (rest := [.int x2]) hfix (k_X8_dotsOf l D cI cJ cZ aA pA v1 hc2) (va_cwS 1 hts gX8_nodes_X8_dotsOf rfl rfl rfl hdS_X8_dotsOf ⟨Nat.le_of_ble_eq_true rfl, Nat.le_of_ble_eq_true rfl⟩) hP hK [0] rfl rfl hl.1 rfl (Nat.le_of_ble_eq_true rfl) dX8_nodes_6 ⟨Nat.zero_le _, Nat.zero_le _⟩ ?_
      refine lv_icmp_ge (tgt := 34) hx hb dX8_nodes_9 (by decide) (fun g3 => ?_) (fun g3 => ?_)
      · rw [if_pos g3] at h
        cases h
        exact hk ls (lv_sub hl [1] rfl) 
      · rw [if_neg g3] at h
        refine lv_iload_n hx hb dX8_nodes_12 rfl (lv_at hl 1 rfl) ?_
        refine lv_aload_n hx hb dX8_nodes_13 rfl (lv_at hl 0 rfl) ?_
        refine lv_iload_n hx hb dX8_nodes_14 rfl (lv_at hl 2 rfl) ?_
        obtain ⟨v4, hc5, h⟩ := sh_b1_e h
        refine sh_cSi (As := [.ref aA, .int x2]) (rest := [.int x1]) hfix (k_X8_isHead l D cI cJ cZ aA pA x2 v4 hc5) (va_cwS 2 hts gX8_nodes_X8_isHead rfl rfl rfl hdS_X8_isHead ⟨Nat.le_of_ble_eq_true rfl, Nat.le_of_ble_eq_true rfl⟩) hP hK [0] rfl rfl hl.1 rfl (Nat.le_of_ble_eq_true rfl) dX8_nodes_15 ⟨Nat.zero_le _, Nat.zero_le _⟩ ?_
        refine lv_if_eq (tgt := 25) hx hb dX8_nodes_18 (by decide) (fun g6 => ?_) (fun g6 => ?_)
        · rw [if_pos g6] at h
          refine lv_iconst (v := 0) hx hb dX8_nodes_25 (by decide) ?_
          refine lv_iadd hx hb dX8_nodes_26 ?_
          refine lv_istore_n (lv' := [(1, .int (x1 + 0)), (0, .ref aA), (2, .int x2)]) hx hb dX8_nodes_27 rfl hl (by decide) rfl (fun ls hl => ?_)
          refine lv_iinc (v := (x2 + 1)) (lv' := [(2, .int (x2 + 1)), (1, .int (x1 + 0)), (0, .ref aA)]) hx hb dX8_nodes_28 hl (k := 2) rfl rfl (by decide) rfl (fun ls hl => ?_)
          refine lv_goto (tgt := 4) hx hb dX8_nodes_31 (by decide) ?_
          exact ih (x1 + 0) (x2 + 1) ow1 ls h (lv_sub hl [2, 1, 0] rfl)  hk
        · rw [if_neg g6] at h
          refine lv_iconst (v := 1) hx hb dX8_nodes_21 (by decide) ?_
          refine lv_goto (tgt := 26) hx hb dX8_nodes_22 (by decide) ?_
          refine lv_iadd hx hb dX8_nodes_26 ?_
          refine lv_istore_n (lv' := [(1, .int (x1 + 1)), (0, .ref aA), (2, .int x2)]) hx hb dX8_nodes_27 rfl hl (by decide) rfl (fun ls hl => ?_)
          refine lv_iinc (v := (x2 + 1)) (lv' := [(2, .int (x2 + 1)), (1, .int (x1 + 1)), (0, .ref aA)]) hx hb dX8_nodes_28 hl (k := 2) rfl rfl (by decide) rfl (fun ls hl => ?_)
          refine lv_goto (tgt := 4) hx hb dX8_nodes_31 (by decide) ?_
          exact ih (x1 + 1) (x2 + 1) ow1 ls h (lv_sub hl [2, 1, 0] rfl)  hk
  obtain ⟨w8, hc9, h⟩ := sh_b1_e h
  refine LP7 sh_fu 0 0 w8 ls hc9 (lv_sub hl [2, 1, 0] rfl)  (fun ls hl  => ?_)
  refine lv_iload_n hx hb dX8_nodes_34 rfl (lv_at hl 0 rfl) ?_
  exact sh_roi hx hb hr hlocks hQ (Option.some.inj h) dX8_nodes_35
theorem hdS_X8_children : yX8_children.cls ≠ "java/lang/invoke/MethodHandle" ∧ yX8_children.cls ≠ "java/lang/invoke/VarHandle" ∧ (parseMethodDescriptor yX8_children.desc).map (fun d => d.parameters.length) = some 2 := by decide +kernel
abbrev rmX8_children : Room := { frames := 6, cells := 0, slots := 0, locals := 144 }
set_option maxHeartbeats 4000000 in
set_option maxRecDepth 100000 in
theorem k_X8_children (l : Launch) (D : va_G) (cI cJ cZ : ClassId) (aA : Nat) (pA : Nat → Int32) (x1 : Int64) (o : Int32) (h : fX8_children pA x1 = some o) : Met l yX8_children wsX8_children rmX8_children (sh_Pr D (sh_ty cI cJ cZ) [(aA, .inl (cI, 39, .inl pA))] [.ref aA, .long x1]) (vp_Si (fun z => z = o)) 0 0 (fun _ => False) := by
  refine Met.ofW (cc := cX8_children) (maxL := 7) (ret := (some .int)) (by decide) rfl ?_
  intro p e s m args below meth c s₁ hB hml hv
  obtain ⟨hargs, hP, hK⟩ := hv
  have hx := hB.exec
  have hb := hB.bytes
  have hr := hB.returns
  have hts := atoms_spec (ws := wsX8_children) hB.pre
  have hown : s.vm.findClass RX8 = some m.cls := findClass_of_methodNamed hB.named
  have hlocks := hB.notSynchronized
  have hfix : CallFix p m c cX8_children 7 s args wsX8_children RX8 := ⟨hx, hb, hml, hown, hts⟩
  rw [show entryFrame m args 7 = entryFrame m ([.ref aA, .long x1] : List Value).toArray 7 by rw [hargs], lg_entry_eq]
  have hl := lv_entry ([.ref aA, .long x1]) (n := 7) (Nat.le_of_ble_eq_true rfl)
  generalize (lg_sl ([.ref aA, .long x1]) ++ List.replicate (7 - (lg_sl ([.ref aA, .long x1])).length) Slot.unset).toArray = ls at hl ⊢
  have hl : lv_has ls 7 [(0, .ref aA), (1, .long x1)] := hl
  generalize hQ : MQ below (vp_Si (fun z => z = o)) args s 0 0 (fun _ => False) = Q
  unfold fX8_children at h
  refine lv_iconst (v := 0) hx hb dX8_children_0 (by decide) ?_
  refine lv_istore_n (lv' := [(3, .int 0), (0, .ref aA), (1, .long x1)]) hx hb dX8_children_1 rfl hl (by decide) rfl (fun ls hl => ?_)
  refine lv_iconst (v := 0) hx hb dX8_children_2 (by decide) ?_
  refine lv_istore (lv' := [(4, .int 0), (3, .int 0), (0, .ref aA), (1, .long x1)]) hx hb dX8_children_3 hl (by decide) rfl (fun ls hl => ?_)
  have LP16 : ∀ (n : Nat) (x1 : Int64) (x3 : Int32) (x4 : Int32) (ow3 : Int32) (ls : Array Slot), fX8_children_L5 n x1 x3 x4 pA = some ow3 → lv_has ls 7 [(0, .ref aA), (1, .long x1), (3, .int x3), (4, .int x4)] → (∀ (ls : Array Slot), lv_has ls 7 [(3, .int ow3)] → W p l e (headSpec wsX8_children rmX8_children).room s m args below meth c s.heap [] 0 0 Q (F0 m 72 ls [])) → W p l e (headSpec wsX8_children rmX8_children).room s m args below meth c s.heap [] 0 0 Q (F0 m 5 ls []) := by
    intro n
    induction n with
    | zero =>
      intro x1 x3 x4 ow3 ls h hl hk
      exact nomatch ((fX8_children_L5_z x1 x3 x4 pA).symm.trans h)
    | succ n ih =>
      intro x1 x3 x4 ow3 ls h hl hk
      rw [fX8_children_L5_s] at h
      refine lv_iload hx hb dX8_children_5 (lv_at hl 3 rfl) ?_
      refine lv_aload_n hx hb dX8_children_7 rfl (lv_at hl 0 rfl) ?_
      obtain ⟨v1, hc2, h⟩ := sh_b1_e h
      refine sh_cSi (As := [.ref aA]) (rest := [.int x4]) hfix (k_X8_dotsOf l D cI cJ cZ aA pA v1 hc2) (va_cwS 1 hts gX8_children_X8_dotsOf rfl rfl rfl hdS_X8_dotsOf ⟨Nat.le_of_ble_eq_true rfl, Nat.le_of_ble_eq_true rfl⟩) hP hK [0] rfl rfl hl.1 rfl (Nat.le_of_ble_eq_true rfl) dX8_children_8 ⟨Nat.zero_le _, Nat.zero_le _⟩ ?_
      refine lv_icmp_ge (tgt := 72) hx hb dX8_children_11 (by decide) (fun g3 => ?_) (fun g3 => ?_)
      · rw [if_pos g3] at h
        cases h
        exact hk ls (lv_sub hl [2] rfl) 
      · rw [if_neg g3] at h
        refine lv_lload_n hx hb dX8_children_14 rfl (lv_at hl 1 rfl) ?_
        refine lv_iload hx hb dX8_children_15 (lv_at hl 3 rfl) ?_
        obtain ⟨v4, hc5, h⟩ := sh_b1_e h
        refine sh_cSi (As := [.long x1, .int x4]) (rest := []) hfix (k_X8_has l D cI cJ cZ x1 x4 v4 hc5) (va_cwS 2 hts gX8_children_X8_has rfl rfl rfl hdS_X8_has ⟨Nat.le_of_ble_eq_true rfl, Nat.le_of_ble_eq_true rfl⟩) hP hK [] rfl rfl hl.1 rfl (Nat.le_of_ble_eq_true rfl) dX8_children_17 ⟨Nat.zero_le _, Nat.zero_le _⟩ ?_
        refine lv_if_eq (tgt := 66) hx hb dX8_children_20 (by decide) (fun g6 => ?_) (fun g6 => ?_)
        · rw [if_pos g6] at h
          refine lv_iinc (v := (x4 + 1)) (lv' := [(4, .int (x4 + 1)), (0, .ref aA), (1, .long x1), (3, .int x3)]) hx hb dX8_children_66 hl (k := 3) rfl rfl (by decide) rfl (fun ls hl => ?_)
          refine lv_goto (tgt := 5) hx hb dX8_children_69 (by decide) ?_
          exact ih x1 x3 (x4 + 1) ow3 ls h (lv_sub hl [1, 2, 3, 0] rfl)  hk
        · rw [if_neg g6] at h
          refine lv_aload_n hx hb dX8_children_23 rfl (lv_at hl 0 rfl) ?_
          refine lv_iload hx hb dX8_children_24 (lv_at hl 3 rfl) ?_
          obtain ⟨v7, hc8, h⟩ := sh_b1_e h
          refine sh_cSi (As := [.ref aA, .int x4]) (rest := []) hfix (k_X8_isHead l D cI cJ cZ aA pA x4 v7 hc8) (va_cwS 2 hts gX8_children_X8_isHead rfl rfl rfl hdS_X8_isHead ⟨Nat.le_of_ble_eq_true rfl, Nat.le_of_ble_eq_true rfl⟩) hP hK [0] rfl rfl hl.1 rfl (Nat.le_of_ble_eq_true rfl) dX8_children_26 ⟨Nat.zero_le _, Nat.zero_le _⟩ ?_
          refine lv_if_eq (tgt := 66) hx hb dX8_children_29 (by decide) (fun g9 => ?_) (fun g9 => ?_)
          · rw [if_pos g9] at h
            refine lv_iinc (v := (x4 + 1)) (lv' := [(4, .int (x4 + 1)), (0, .ref aA), (1, .long x1), (3, .int x3)]) hx hb dX8_children_66 hl (k := 3) rfl rfl (by decide) rfl (fun ls hl => ?_)
            refine lv_goto (tgt := 5) hx hb dX8_children_69 (by decide) ?_
            exact ih x1 x3 (x4 + 1) ow3 ls h (lv_sub hl [1, 2, 3, 0] rfl)  hk
          · rw [if_neg g9] at h
            refine lv_aload_n hx hb dX8_children_32 rfl (lv_at hl 0 rfl) ?_
            refine lv_iload hx hb dX8_children_33 (lv_at hl 3 rfl) ?_
            obtain ⟨v10, hc11, h⟩ := sh_b1_e h
            refine sh_cSl (As := [.ref aA, .int x4]) (rest := []) hfix (k_X8_nodeOf l D cI cJ cZ aA pA x4 v10 hc11) (va_cwS 2 hts gX8_children_X8_nodeOf rfl rfl rfl hdS_X8_nodeOf ⟨Nat.le_of_ble_eq_true rfl, Nat.le_of_ble_eq_true rfl⟩) hP hK [0] rfl rfl hl.1 rfl (Nat.le_of_ble_eq_true rfl) dX8_children_35 ⟨Nat.zero_le _, Nat.zero_le _⟩ ?_
            refine lv_lstore (lv' := [(5, .long v10), (0, .ref aA), (1, .long x1), (3, .int x3), (4, .int x4)]) hx hb dX8_children_38 hl (by decide) rfl (fun ls hl => ?_)
            refine lv_iload_n hx hb dX8_children_40 rfl (lv_at hl 3 rfl) ?_
            refine lv_lload hx hb dX8_children_41 (lv_at hl 0 rfl) ?_
            refine lv_lload_n hx hb dX8_children_43 rfl (lv_at hl 2 rfl) ?_
            refine sh_leq (tgt := 63) hx hb dX8_children_44 dX8_children_45 (by decide) (fun g12 => ?_) (fun g12 => ?_)
            · rw [if_pos g12] at h
              refine lv_iconst (v := 0) hx hb dX8_children_63 (by decide) ?_
              refine lv_iadd hx hb dX8_children_64 ?_
              refine lv_istore_n (lv' := [(3, .int (x3 + 0)), (5, .long v10), (0, .ref aA), (1, .long x1), (4, .int x4)]) hx hb dX8_children_65 rfl hl (by decide) rfl (fun ls hl => ?_)
              refine lv_iinc (v := (x4 + 1)) (lv' := [(4, .int (x4 + 1)), (3, .int (x3 + 0)), (5, .long v10), (0, .ref aA), (1, .long x1)]) hx hb dX8_children_66 hl (k := 4) rfl rfl (by decide) rfl (fun ls hl => ?_)
              refine lv_goto (tgt := 5) hx hb dX8_children_69 (by decide) ?_
              exact ih x1 (x3 + 0) (x4 + 1) ow3 ls h (lv_sub hl [3, 4, 1, 0] rfl)  hk
            · rw [if_neg g12] at h
              refine lv_aload_n hx hb dX8_children_48 rfl (lv_at hl 1 rfl) ?_
              refine lv_lload hx hb dX8_children_49 (lv_at hl 0 rfl) ?_
              obtain ⟨v13, hc14, h⟩ := sh_b1_e h
              refine sh_cSl (As := [.ref aA, .long v10]) (rest := [.int x3]) hfix (k_X8_parent l D cI cJ cZ aA pA v10 v13 hc14) (va_cwS 2 hts gX8_children_X8_parent rfl rfl rfl hdS_X8_parent ⟨Nat.le_of_ble_eq_true rfl, Nat.le_of_ble_eq_true rfl⟩) hP hK [0] rfl rfl hl.1 rfl (Nat.le_of_ble_eq_true rfl) dX8_children_51 ⟨Nat.zero_le _, Nat.zero_le _⟩ ?_
              refine lv_lload_n hx hb dX8_children_54 rfl (lv_at hl 2 rfl) ?_
              refine sh_lne (tgt := 63) hx hb dX8_children_55 dX8_children_56 (by decide) (fun g15 => ?_) (fun g15 => ?_)
              · rw [if_neg g15] at h
                refine lv_iconst (v := 0) hx hb dX8_children_63 (by decide) ?_
                refine lv_iadd hx hb dX8_children_64 ?_
                refine lv_istore_n (lv' := [(3, .int (x3 + 0)), (5, .long v10), (0, .ref aA), (1, .long x1), (4, .int x4)]) hx hb dX8_children_65 rfl hl (by decide) rfl (fun ls hl => ?_)
                refine lv_iinc (v := (x4 + 1)) (lv' := [(4, .int (x4 + 1)), (3, .int (x3 + 0)), (5, .long v10), (0, .ref aA), (1, .long x1)]) hx hb dX8_children_66 hl (k := 4) rfl rfl (by decide) rfl (fun ls hl => ?_)
                refine lv_goto (tgt := 5) hx hb dX8_children_69 (by decide) ?_
                exact ih x1 (x3 + 0) (x4 + 1) ow3 ls h (lv_sub hl [3, 4, 1, 0] rfl)  hk
              · rw [if_pos g15] at h
                refine lv_iconst (v := 1) hx hb dX8_children_59 (by decide) ?_
                refine lv_goto (tgt := 64) hx hb dX8_children_60 (by decide) ?_
                refine lv_iadd hx hb dX8_children_64 ?_
                refine lv_istore_n (lv' := [(3, .int (x3 + 1)), (5, .long v10), (0, .ref aA), (1, .long x1), (4, .int x4)]) hx hb dX8_children_65 rfl hl (by decide) rfl (fun ls hl => ?_)
                refine lv_iinc (v := (x4 + 1)) (lv' := [(4, .int (x4 + 1)), (3, .int (x3 + 1)), (5, .long v10), (0, .ref aA), (1, .long x1)]) hx hb dX8_children_66 hl (k := 4) rfl rfl (by decide) rfl (fun ls hl => ?_)
                refine lv_goto (tgt := 5) hx hb dX8_children_69 (by decide) ?_
                exact ih x1 (x3 + 1) (x4 + 1) ow3 ls h (lv_sub hl [3, 4, 1, 0] rfl)  hk
  obtain ⟨w17, hc18, h⟩ := sh_b1_e h
  refine LP16 sh_fu x1 0 0 w17 ls hc18 (lv_sub hl [2, 3, 1, 0] rfl)  (fun ls hl  => ?_)
  refine lv_iload_n hx hb dX8_children_72 rfl (lv_at hl 0 rfl) ?_
  exact sh_roi hx hb hr hlocks hQ (Option.some.inj h) dX8_children_73
theorem hdS_X8_depth : yX8_depth.cls ≠ "java/lang/invoke/MethodHandle" ∧ yX8_depth.cls ≠ "java/lang/invoke/VarHandle" ∧ (parseMethodDescriptor yX8_depth.desc).map (fun d => d.parameters.length) = some 2 := by decide +kernel
abbrev rmX8_depth : Room := { frames := 5, cells := 0, slots := 0, locals := 128 }
set_option maxHeartbeats 4000000 in
set_option maxRecDepth 100000 in
theorem k_X8_depth (l : Launch) (D : va_G) (cI cJ cZ : ClassId) (aA : Nat) (pA : Nat → Int32) (x1 : Int64) (o : Int32) (h : fX8_depth pA x1 = some o) : Met l yX8_depth wsX8_depth rmX8_depth (sh_Pr D (sh_ty cI cJ cZ) [(aA, .inl (cI, 39, .inl pA))] [.ref aA, .long x1]) (vp_Si (fun z => z = o)) 0 0 (fun _ => False) := by
  refine Met.ofW (cc := cX8_depth) (maxL := 8) (ret := (some .int)) (by decide) rfl ?_
  intro p e s m args below meth c s₁ hB hml hv
  obtain ⟨hargs, hP, hK⟩ := hv
  have hx := hB.exec
  have hb := hB.bytes
  have hr := hB.returns
  have hts := atoms_spec (ws := wsX8_depth) hB.pre
  have hown : s.vm.findClass RX8 = some m.cls := findClass_of_methodNamed hB.named
  have hlocks := hB.notSynchronized
  have hfix : CallFix p m c cX8_depth 8 s args wsX8_depth RX8 := ⟨hx, hb, hml, hown, hts⟩
  rw [show entryFrame m args 8 = entryFrame m ([.ref aA, .long x1] : List Value).toArray 8 by rw [hargs], lg_entry_eq]
  have hl := lv_entry ([.ref aA, .long x1]) (n := 8) (Nat.le_of_ble_eq_true rfl)
  generalize (lg_sl ([.ref aA, .long x1]) ++ List.replicate (8 - (lg_sl ([.ref aA, .long x1])).length) Slot.unset).toArray = ls at hl ⊢
  have hl : lv_has ls 8 [(0, .ref aA), (1, .long x1)] := hl
  generalize hQ : MQ below (vp_Si (fun z => z = o)) args s 0 0 (fun _ => False) = Q
  unfold fX8_depth at h
  refine lv_iconst (v := 0) hx hb dX8_depth_0 (by decide) ?_
  refine lv_istore_n (lv' := [(3, .int 0), (0, .ref aA), (1, .long x1)]) hx hb dX8_depth_1 rfl hl (by decide) rfl (fun ls hl => ?_)
  refine lv_lload_n hx hb dX8_depth_2 rfl (lv_at hl 2 rfl) ?_
  refine lv_lstore (lv' := [(4, .long x1), (3, .int 0), (0, .ref aA), (1, .long x1)]) hx hb dX8_depth_3 hl (by decide) rfl (fun ls hl => ?_)
  refine lv_aload_n hx hb dX8_depth_5 rfl (lv_at hl 2 rfl) ?_
  refine lv_lload hx hb dX8_depth_6 (lv_at hl 0 rfl) ?_
  obtain ⟨v1, hc2, h⟩ := sh_b1_e h
  refine sh_cSl (As := [.ref aA, .long x1]) (rest := []) hfix (k_X8_parent l D cI cJ cZ aA pA x1 v1 hc2) (va_cwS 2 hts gX8_depth_X8_parent rfl rfl rfl hdS_X8_parent ⟨Nat.le_of_ble_eq_true rfl, Nat.le_of_ble_eq_true rfl⟩) hP hK [0] rfl rfl hl.1 rfl (Nat.le_of_ble_eq_true rfl) dX8_depth_8 ⟨Nat.zero_le _, Nat.zero_le _⟩ ?_
  refine lv_lstore (lv' := [(6, .long v1), (4, .long x1), (3, .int 0), (0, .ref aA), (1, .long x1)]) hx hb dX8_depth_11 hl (by decide) rfl (fun ls hl => ?_)
  have LP6 : ∀ (n : Nat) (x3 : Int32) (x4 : Int64) (x6 : Int64) (ow3 : Int32) (ls : Array Slot), fX8_depth_L13 n x3 x4 x6 pA = some ow3 → lv_has ls 8 [(0, .ref aA), (3, .int x3), (4, .long x4), (6, .long x6)] → (∀ (ls : Array Slot), lv_has ls 8 [(3, .int ow3)] → W p l e (headSpec wsX8_depth rmX8_depth).room s m args below meth c s.heap [] 0 0 Q (F0 m 39 ls [])) → W p l e (headSpec wsX8_depth rmX8_depth).room s m args below meth c s.heap [] 0 0 Q (F0 m 13 ls []) := by
    intro n
    induction n with
    | zero =>
      intro x3 x4 x6 ow3 ls h hl hk
      exact nomatch ((fX8_depth_L13_z x3 x4 x6 pA).symm.trans h)
    | succ n ih =>
      intro x3 x4 x6 ow3 ls h hl hk
      rw [fX8_depth_L13_s] at h
      refine lv_lload hx hb dX8_depth_13 (lv_at hl 3 rfl) ?_
      refine lv_lload hx hb dX8_depth_15 (lv_at hl 2 rfl) ?_
      refine sh_leq (tgt := 39) hx hb dX8_depth_17 dX8_depth_18 (by decide) (fun g3 => ?_) (fun g3 => ?_)
      · rw [if_pos g3] at h
        cases h
        exact hk ls (lv_sub hl [1] rfl) 
      · rw [if_neg g3] at h
        refine lv_iinc (v := (x3 + 1)) (lv' := [(3, .int (x3 + 1)), (0, .ref aA), (4, .long x4), (6, .long x6)]) hx hb dX8_depth_21 hl (k := 1) rfl rfl (by decide) rfl (fun ls hl => ?_)
        refine lv_lload hx hb dX8_depth_24 (lv_at hl 3 rfl) ?_
        refine lv_lstore (lv' := [(4, .long x6), (3, .int (x3 + 1)), (0, .ref aA), (6, .long x6)]) hx hb dX8_depth_26 hl (by decide) rfl (fun ls hl => ?_)
        refine lv_aload_n hx hb dX8_depth_28 rfl (lv_at hl 2 rfl) ?_
        refine lv_lload hx hb dX8_depth_29 (lv_at hl 0 rfl) ?_
        obtain ⟨v4, hc5, h⟩ := sh_b1_e h
        refine sh_cSl (As := [.ref aA, .long x6]) (rest := []) hfix (k_X8_parent l D cI cJ cZ aA pA x6 v4 hc5) (va_cwS 2 hts gX8_depth_X8_parent rfl rfl rfl hdS_X8_parent ⟨Nat.le_of_ble_eq_true rfl, Nat.le_of_ble_eq_true rfl⟩) hP hK [0] rfl rfl hl.1 rfl (Nat.le_of_ble_eq_true rfl) dX8_depth_31 ⟨Nat.zero_le _, Nat.zero_le _⟩ ?_
        refine lv_lstore (lv' := [(6, .long v4), (4, .long x6), (3, .int (x3 + 1)), (0, .ref aA)]) hx hb dX8_depth_34 hl (by decide) rfl (fun ls hl => ?_)
        refine lv_goto (tgt := 13) hx hb dX8_depth_36 (by decide) ?_
        exact ih (x3 + 1) x6 v4 ow3 ls h (lv_sub hl [3, 2, 1, 0] rfl)  hk
  obtain ⟨w7, hc8, h⟩ := sh_b1_e h
  refine LP6 sh_fu 0 x1 v1 w7 ls hc8 (lv_sub hl [3, 2, 1, 0] rfl)  (fun ls hl  => ?_)
  refine lv_iload_n hx hb dX8_depth_39 rfl (lv_at hl 0 rfl) ?_
  exact sh_roi hx hb hr hlocks hQ (Option.some.inj h) dX8_depth_40
theorem hdS_X8_light : yX8_light.cls ≠ "java/lang/invoke/MethodHandle" ∧ yX8_light.cls ≠ "java/lang/invoke/VarHandle" ∧ (parseMethodDescriptor yX8_light.desc).map (fun d => d.parameters.length) = some 2 := by decide +kernel
abbrev rmX8_light : Room := { frames := 1, cells := 0, slots := 0, locals := 22 }
set_option maxHeartbeats 4000000 in
set_option maxRecDepth 100000 in
theorem k_X8_light (l : Launch) (D : va_G) (cI cJ cZ : ClassId) (aA : Nat) (pA : Nat → Int32) (x1 : Int64) (o : Int32) (h : fX8_light pA x1 = some o) : Met l yX8_light wsX8_light rmX8_light (sh_Pr D (sh_ty cI cJ cZ) [(aA, .inl (cI, 39, .inl pA))] [.ref aA, .long x1]) (vp_Si (fun z => z = o)) 0 0 (fun _ => False) := by
  refine Met.ofW (cc := cX8_light) (maxL := 5) (ret := (some .int)) (by decide) rfl ?_
  intro p e s m args below meth c s₁ hB hml hv
  obtain ⟨hargs, hP, hK⟩ := hv
  have hx := hB.exec
  have hb := hB.bytes
  have hr := hB.returns
  have hts := atoms_spec (ws := wsX8_light) hB.pre
  have hown : s.vm.findClass RX8 = some m.cls := findClass_of_methodNamed hB.named
  have hlocks := hB.notSynchronized
  have hfix : CallFix p m c cX8_light 5 s args wsX8_light RX8 := ⟨hx, hb, hml, hown, hts⟩
  rw [show entryFrame m args 5 = entryFrame m ([.ref aA, .long x1] : List Value).toArray 5 by rw [hargs], lg_entry_eq]
  have hl := lv_entry ([.ref aA, .long x1]) (n := 5) (Nat.le_of_ble_eq_true rfl)
  generalize (lg_sl ([.ref aA, .long x1]) ++ List.replicate (5 - (lg_sl ([.ref aA, .long x1])).length) Slot.unset).toArray = ls at hl ⊢
  have hl : lv_has ls 5 [(0, .ref aA), (1, .long x1)] := hl
  generalize hQ : MQ below (vp_Si (fun z => z = o)) args s 0 0 (fun _ => False) = Q
  unfold fX8_light at h
  refine lv_iconst (v := 0) hx hb dX8_light_0 (by decide) ?_
  refine lv_istore_n (lv' := [(3, .int 0), (0, .ref aA), (1, .long x1)]) hx hb dX8_light_1 rfl hl (by decide) rfl (fun ls hl => ?_)
  refine lv_iconst (v := 0) hx hb dX8_light_2 (by decide) ?_
  refine lv_istore (lv' := [(4, .int 0), (3, .int 0), (0, .ref aA), (1, .long x1)]) hx hb dX8_light_3 hl (by decide) rfl (fun ls hl => ?_)
  have LP8 : ∀ (n : Nat) (x1 : Int64) (x3 : Int32) (x4 : Int32) (ow3 : Int32) (ls : Array Slot), fX8_light_L5 n x1 x3 x4 pA = some ow3 → lv_has ls 5 [(0, .ref aA), (1, .long x1), (3, .int x3), (4, .int x4)] → (∀ (ls : Array Slot), lv_has ls 5 [(3, .int ow3)] → W p l e (headSpec wsX8_light rmX8_light).room s m args below meth c s.heap [] 0 0 Q (F0 m 42 ls [])) → W p l e (headSpec wsX8_light rmX8_light).room s m args below meth c s.heap [] 0 0 Q (F0 m 5 ls []) := by
    intro n
    induction n with
    | zero =>
      intro x1 x3 x4 ow3 ls h hl hk
      exact nomatch ((fX8_light_L5_z x1 x3 x4 pA).symm.trans h)
    | succ n ih =>
      intro x1 x3 x4 ow3 ls h hl hk
      rw [fX8_light_L5_s] at h
      refine lv_iload hx hb dX8_light_5 (lv_at hl 3 rfl) ?_
      refine lv_aload_n hx hb dX8_light_7 rfl (lv_at hl 0 rfl) ?_
      obtain ⟨v1, hc2, h⟩ := sh_b1_e h
      refine sh_cSi (As := [.ref aA]) (rest := [.int x4]) hfix (k_X8_dotsOf l D cI cJ cZ aA pA v1 hc2) (va_cwS 1 hts gX8_light_X8_dotsOf rfl rfl rfl hdS_X8_dotsOf ⟨Nat.le_of_ble_eq_true rfl, Nat.le_of_ble_eq_true rfl⟩) hP hK [0] rfl rfl hl.1 rfl (Nat.le_of_ble_eq_true rfl) dX8_light_8 ⟨Nat.zero_le _, Nat.zero_le _⟩ ?_
      refine lv_icmp_ge (tgt := 42) hx hb dX8_light_11 (by decide) (fun g3 => ?_) (fun g3 => ?_)
      · rw [if_pos g3] at h
        cases h
        exact hk ls (lv_sub hl [2] rfl) 
      · rw [if_neg g3] at h
        refine lv_iload_n hx hb dX8_light_14 rfl (lv_at hl 2 rfl) ?_
        refine lv_lload_n hx hb dX8_light_15 rfl (lv_at hl 1 rfl) ?_
        refine lv_iload hx hb dX8_light_16 (lv_at hl 3 rfl) ?_
        obtain ⟨v4, hc5, h⟩ := sh_b1_e h
        refine sh_cSi (As := [.long x1, .int x4]) (rest := [.int x3]) hfix (k_X8_has l D cI cJ cZ x1 x4 v4 hc5) (va_cwS 2 hts gX8_light_X8_has rfl rfl rfl hdS_X8_has ⟨Nat.le_of_ble_eq_true rfl, Nat.le_of_ble_eq_true rfl⟩) hP hK [] rfl rfl hl.1 rfl (Nat.le_of_ble_eq_true rfl) dX8_light_18 ⟨Nat.zero_le _, Nat.zero_le _⟩ ?_
        refine lv_if_eq (tgt := 33) hx hb dX8_light_21 (by decide) (fun g6 => ?_) (fun g6 => ?_)
        · rw [if_pos g6] at h
          refine lv_iconst (v := 0) hx hb dX8_light_33 (by decide) ?_
          refine lv_iadd hx hb dX8_light_34 ?_
          refine lv_istore_n (lv' := [(3, .int (x3 + 0)), (0, .ref aA), (1, .long x1), (4, .int x4)]) hx hb dX8_light_35 rfl hl (by decide) rfl (fun ls hl => ?_)
          refine lv_iinc (v := (x4 + 1)) (lv' := [(4, .int (x4 + 1)), (3, .int (x3 + 0)), (0, .ref aA), (1, .long x1)]) hx hb dX8_light_36 hl (k := 3) rfl rfl (by decide) rfl (fun ls hl => ?_)
          refine lv_goto (tgt := 5) hx hb dX8_light_39 (by decide) ?_
          exact ih x1 (x3 + 0) (x4 + 1) ow3 ls h (lv_sub hl [2, 3, 1, 0] rfl)  hk
        · rw [if_neg g6] at h
          refine lv_aload_n hx hb dX8_light_24 rfl (lv_at hl 0 rfl) ?_
          refine lv_iconst (v := 3) hx hb dX8_light_25 (by decide) ?_
          refine lv_iload hx hb dX8_light_26 (lv_at hl 3 rfl) ?_
          refine lv_iadd hx hb dX8_light_28 ?_
          obtain ⟨v7, hcv7, h⟩ := sh_b1_e h
          refine sh_iald hx hb hK hP 0 0 rfl rfl (sh_ald_e hcv7) dX8_light_29 ?_
          refine lv_goto (tgt := 34) hx hb dX8_light_30 (by decide) ?_
          refine lv_iadd hx hb dX8_light_34 ?_
          refine lv_istore_n (lv' := [(3, .int (x3 + v7)), (0, .ref aA), (1, .long x1), (4, .int x4)]) hx hb dX8_light_35 rfl hl (by decide) rfl (fun ls hl => ?_)
          refine lv_iinc (v := (x4 + 1)) (lv' := [(4, .int (x4 + 1)), (3, .int (x3 + v7)), (0, .ref aA), (1, .long x1)]) hx hb dX8_light_36 hl (k := 3) rfl rfl (by decide) rfl (fun ls hl => ?_)
          refine lv_goto (tgt := 5) hx hb dX8_light_39 (by decide) ?_
          exact ih x1 (x3 + v7) (x4 + 1) ow3 ls h (lv_sub hl [2, 3, 1, 0] rfl)  hk
  obtain ⟨w9, hc10, h⟩ := sh_b1_e h
  refine LP8 sh_fu x1 0 0 w9 ls hc10 (lv_sub hl [2, 3, 1, 0] rfl)  (fun ls hl  => ?_)
  refine lv_iload_n hx hb dX8_light_42 rfl (lv_at hl 0 rfl) ?_
  exact sh_roi hx hb hr hlocks hQ (Option.some.inj h) dX8_light_43
