theorem hdV_X2_bigParts : yX2_bigParts.cls = RX2 ∧ yX2_bigParts.cls ≠ "java/lang/invoke/MethodHandle" ∧ yX2_bigParts.cls ≠ "java/lang/invoke/VarHandle" ∧ (parseMethodDescriptor yX2_bigParts.desc).map (fun d => d.parameters.length) = some 3 := by decide +kernel
abbrev rmX2_bigParts : Room := { frames := 3, cells := 0, slots := 0, locals := 69 }
set_option maxHeartbeats 4000000 in
set_option maxRecDepth 100000 in
theorem k_X2_bigParts (l : Launch) (D : va_G) (cI cJ cZ : ClassId) (aG : Nat) (aS : Nat) (aY : Nat) (gw : Int32) (gd : Int32) (gh : Int32) (ga : Int64) (gl : Int64) (gr : Int64) (sL : Nat → Int64) (x1 : Int64) (x3 : Int32) (x4 : Int32) (o : Int64) (h : fX2_bigParts gw gd gh ga gl gr x1 x3 x4 = some o) : Met l yX2_bigParts wsX2_bigParts rmX2_bigParts (sh_Pr D (sh_ty cI cJ cZ) [(aS, .inr (2, [.ref aG, .ref aY])), (aY, .inl (cJ, 10, .inr (.inl sL))), (aG, .inr (1, [.int gw, .int gd, .int gh, .long ga, .long gl, .long gr]))] [.ref aS, .long x1, .int x3, .int x4]) (vp_Sl (fun z => z = o)) 0 0 (fun _ => False) := by
  refine Met.ofW (cc := cX2_bigParts) (maxL := 12) (ret := (some .long)) (by decide) rfl ?_
  intro p e s m args below meth c s₁ hB hml hv
  obtain ⟨hargs, hP, hK⟩ := hv
  have hx := hB.exec
  have hb := hB.bytes
  have hr := hB.returns
  have hts := atoms_spec (ws := wsX2_bigParts) hB.pre
  have hown : s.vm.findClass RX2 = some m.cls := findClass_of_methodNamed hB.named
  have hlocks := hB.notSynchronized
  have hfix : CallFix p m c cX2_bigParts 12 s args wsX2_bigParts RX2 := ⟨hx, hb, hml, hown, hts⟩
  have hinX2 : ∀ w ∈ wsX20, w ∈ wsX2_bigParts := by decide +kernel
  have lk1 := hts (.fieldLink RX2 15 "ShadeTree$Shades" "grid" "LShadeTree$Grid;") (by decide +kernel)
  have lk2 := hts (.constantLong RX2 38 (-1)) (by decide +kernel)
  rw [show entryFrame m args 12 = entryFrame m ([.ref aS, .long x1, .int x3, .int x4] : List Value).toArray 12 by rw [hargs], lg_entry_eq]
  have hl := lv_entry ([.ref aS, .long x1, .int x3, .int x4]) (n := 12) (Nat.le_of_ble_eq_true rfl)
  generalize (lg_sl ([.ref aS, .long x1, .int x3, .int x4]) ++ List.replicate (12 - (lg_sl ([.ref aS, .long x1, .int x3, .int x4])).length) Slot.unset).toArray = ls at hl ⊢
  have hl : lv_has ls 12 [(0, .ref aS), (1, .long x1), (3, .int x3), (4, .int x4)] := hl
  generalize hQ : MQ below (vp_Sl (fun z => z = o)) args s 0 0 (fun _ => False) = Q
  unfold fX2_bigParts at h
  refine lv_lload_n hx hb dX2_bigParts_0 rfl (lv_at hl 1 rfl) ?_
  refine lv_aload_n hx hb dX2_bigParts_1 rfl (lv_at hl 0 rfl) ?_
  refine va_get (ci := 2) (v := .ref aG) (C := RX2) (T := TX2) (N := 2) hx hb hts hinX2 hown hK hP 0 rfl rfl 0 (by decide) lk1 (fun _ h9 => h9) rfl dX2_bigParts_2 ?_
  obtain ⟨v1, hc2, h⟩ := sh_b1_e h
  refine sh_cVl (As := []) (rest := [.long x1]) hfix (k_X1_all l D cI cJ cZ aG gw gd gh ga gl gr v1 hc2) (cwV 0 hts gX2_bigParts_X1_all rfl rfl rfl hdV_X1_all ⟨Nat.le_of_ble_eq_true rfl, Nat.le_of_ble_eq_true rfl⟩) hP hK [2] rfl 2 rfl rfl rfl hl.1 rfl (Nat.le_of_ble_eq_true rfl) dX2_bigParts_5 ⟨Nat.zero_le _, Nat.zero_le _⟩ ?_
  refine sh_lne (tgt := 14) hx hb dX2_bigParts_8 dX2_bigParts_9 (by decide) (fun g3 => ?_) (fun g3 => ?_)
  · rw [if_neg g3] at h
    refine lv_lconst (v := 0) hx hb dX2_bigParts_14 (by decide) ?_
    refine lv_lstore (lv' := [(5, .long 0), (0, .ref aS), (1, .long x1), (3, .int x3), (4, .int x4)]) hx hb dX2_bigParts_15 hl (by decide) rfl (fun ls hl => ?_)
    refine lv_lload_n hx hb dX2_bigParts_17 rfl (lv_at hl 2 rfl) ?_
    refine lv_lstore (lv' := [(7, .long x1), (5, .long 0), (0, .ref aS), (1, .long x1), (3, .int x3), (4, .int x4)]) hx hb dX2_bigParts_18 hl (by decide) rfl (fun ls hl => ?_)
    refine lv_iconst (v := 0) hx hb dX2_bigParts_20 (by decide) ?_
    refine lv_istore (lv' := [(9, .int 0), (7, .long x1), (5, .long 0), (0, .ref aS), (1, .long x1), (3, .int x3), (4, .int x4)]) hx hb dX2_bigParts_21 hl (by decide) rfl (fun ls hl => ?_)
    have LP13 : ∀ (n : Nat) (x1 : Int64) (x3 : Int32) (x4 : Int32) (x5 : Int64) (x7 : Int64) (x9 : Int32) (ow5 : Int64) (ls : Array Slot), fX2_bigParts_L23 n x1 x3 x4 x5 x7 x9 gw gd gh gl gr = some ow5 → lv_has ls 12 [(0, .ref aS), (1, .long x1), (3, .int x3), (4, .int x4), (5, .long x5), (7, .long x7), (9, .int x9)] → (∀ (ls : Array Slot), lv_has ls 12 [(5, .long ow5)] → W p l e (headSpec wsX2_bigParts rmX2_bigParts).room s m args below meth c s.heap [] 0 0 Q (F0 m 96 ls [])) → W p l e (headSpec wsX2_bigParts rmX2_bigParts).room s m args below meth c s.heap [] 0 0 Q (F0 m 23 ls []) := by
      intro n
      induction n with
      | zero =>
        intro x1 x3 x4 x5 x7 x9 ow5 ls h hl hk
        exact nomatch ((fX2_bigParts_L23_z x1 x3 x4 x5 x7 x9 gw gd gh gl gr).symm.trans h)
      | succ n ih =>
        intro x1 x3 x4 x5 x7 x9 ow5 ls h hl hk
        rw [fX2_bigParts_L23_s] at h
        refine lv_iload hx hb dX2_bigParts_23 (lv_at hl 6 rfl) ?_
        refine lv_bipush (v := 36) hx hb dX2_bigParts_25 (by decide) ?_
        refine lv_icmp_ge (tgt := 96) hx hb dX2_bigParts_27 (by decide) (fun g4 => ?_) (fun g4 => ?_)
        · rw [if_pos g4] at h
          cases h
          exact hk ls (lv_sub hl [4] rfl) 
        · rw [if_neg g4] at h
          refine lv_lload hx hb dX2_bigParts_30 (lv_at hl 5 rfl) ?_
          refine lv_lconst (v := 0) hx hb dX2_bigParts_32 (by decide) ?_
          refine sh_leq (tgt := 96) hx hb dX2_bigParts_33 dX2_bigParts_34 (by decide) (fun g5 => ?_) (fun g5 => ?_)
          · rw [if_pos g5] at h
            cases h
            exact hk ls (lv_sub hl [4] rfl) 
          · rw [if_neg g5] at h
            refine lv_aload_n hx hb dX2_bigParts_37 rfl (lv_at hl 0 rfl) ?_
            refine va_get (ci := 2) (v := .ref aG) (C := RX2) (T := TX2) (N := 2) hx hb hts hinX2 hown hK hP 0 rfl rfl 0 (by decide) lk1 (fun _ h9 => h9) rfl dX2_bigParts_38 ?_
            refine lv_lload_n hx hb dX2_bigParts_41 rfl (lv_at hl 1 rfl) ?_
            refine lv_lload hx hb dX2_bigParts_42 (lv_at hl 5 rfl) ?_
            refine lv_lload hx hb dX2_bigParts_44 (lv_at hl 5 rfl) ?_
            refine lv_lneg hx hb dX2_bigParts_46 ?_
            refine lv_land hx hb dX2_bigParts_47 ?_
            refine lv_aload_n hx hb dX2_bigParts_48 rfl (lv_at hl 0 rfl) ?_
            refine va_get (ci := 2) (v := .ref aG) (C := RX2) (T := TX2) (N := 2) hx hb hts hinX2 hown hK hP 0 rfl rfl 0 (by decide) lk1 (fun _ h9 => h9) rfl dX2_bigParts_49 ?_
            obtain ⟨v6, hc7, h⟩ := sh_b1_e h
            refine sh_cVi (As := []) (rest := [.long (x7 &&& (-x7)), .long x1, .ref aG]) hfix (k_X1_way l D cI cJ cZ aG gw gd gh ga gl gr v6 hc7) (cwV 0 hts gX2_bigParts_X1_way rfl rfl rfl hdV_X1_way ⟨Nat.le_of_ble_eq_true rfl, Nat.le_of_ble_eq_true rfl⟩) hP hK [2] rfl 2 rfl rfl rfl hl.1 rfl (Nat.le_of_ble_eq_true rfl) dX2_bigParts_52 ⟨Nat.zero_le _, Nat.zero_le _⟩ ?_
            obtain ⟨v8, hc9, h⟩ := sh_b1_e h
            refine sh_cVl (As := [.long x1, .long (x7 &&& (-x7)), .int v6]) (rest := []) hfix (k_X1_partAround l D cI cJ cZ aG gw gd gh ga gl gr x1 (x7 &&& (-x7)) v6 v8 hc9) (cwV 3 hts gX2_bigParts_X1_partAround rfl rfl rfl hdV_X1_partAround ⟨Nat.le_of_ble_eq_true rfl, Nat.le_of_ble_eq_true rfl⟩) hP hK [2] rfl 2 rfl rfl rfl hl.1 rfl (Nat.le_of_ble_eq_true rfl) dX2_bigParts_55 ⟨Nat.zero_le _, Nat.zero_le _⟩ ?_
            refine lv_lstore (lv' := [(10, .long v8), (0, .ref aS), (1, .long x1), (3, .int x3), (4, .int x4), (5, .long x5), (7, .long x7), (9, .int x9)]) hx hb dX2_bigParts_58 hl (by decide) rfl (fun ls hl => ?_)
            refine lv_aload_n hx hb dX2_bigParts_60 rfl (lv_at hl 1 rfl) ?_
            refine lv_lload hx hb dX2_bigParts_61 (lv_at hl 0 rfl) ?_
            refine lv_iload_n hx hb dX2_bigParts_63 rfl (lv_at hl 3 rfl) ?_
            refine lv_iload hx hb dX2_bigParts_64 (lv_at hl 4 rfl) ?_
            obtain ⟨v10, hc11, h⟩ := sh_b1_e h
            refine sh_cVi (As := [.long v8, .int x3, .int x4]) (rest := []) hfix (k_X2_isBig l D cI cJ cZ aG aS aY gw gd gh ga gl gr sL v8 x3 x4 v10 hc11) (cwV 3 hts gX2_bigParts_X2_isBig rfl rfl rfl hdV_X2_isBig ⟨Nat.le_of_ble_eq_true rfl, Nat.le_of_ble_eq_true rfl⟩) hP hK [0, 1, 2] rfl 0 rfl rfl rfl hl.1 rfl (Nat.le_of_ble_eq_true rfl) dX2_bigParts_66 ⟨Nat.zero_le _, Nat.zero_le _⟩ ?_
            refine lv_if_eq (tgt := 79) hx hb dX2_bigParts_69 (by decide) (fun g12 => ?_) (fun g12 => ?_)
            · rw [if_pos g12] at h
              refine lv_lload hx hb dX2_bigParts_79 (lv_at hl 6 rfl) ?_
              refine lv_lload hx hb dX2_bigParts_81 (lv_at hl 0 rfl) ?_
              refine lv_ldc2 hx hb hown lk2 dX2_bigParts_83 ?_
              refine lv_lxor hx hb dX2_bigParts_86 ?_
              refine lv_land hx hb dX2_bigParts_87 ?_
              refine lv_lstore (lv' := [(7, .long (x7 &&& (v8 ^^^ (-1)))), (10, .long v8), (0, .ref aS), (1, .long x1), (3, .int x3), (4, .int x4), (5, .long x5), (9, .int x9)]) hx hb dX2_bigParts_88 hl (by decide) rfl (fun ls hl => ?_)
              refine lv_iinc (v := (x9 + 1)) (lv' := [(9, .int (x9 + 1)), (7, .long (x7 &&& (v8 ^^^ (-1)))), (10, .long v8), (0, .ref aS), (1, .long x1), (3, .int x3), (4, .int x4), (5, .long x5)]) hx hb dX2_bigParts_90 hl (k := 7) rfl rfl (by decide) rfl (fun ls hl => ?_)
              refine lv_goto (tgt := 23) hx hb dX2_bigParts_93 (by decide) ?_
              exact ih x1 x3 x4 x5 (x7 &&& (v8 ^^^ (-1))) (x9 + 1) ow5 ls h (lv_sub hl [3, 4, 5, 6, 7, 1, 0] rfl)  hk
            · rw [if_neg g12] at h
              refine lv_lload hx hb dX2_bigParts_72 (lv_at hl 5 rfl) ?_
              refine lv_lload hx hb dX2_bigParts_74 (lv_at hl 0 rfl) ?_
              refine lv_lor hx hb dX2_bigParts_76 ?_
              refine lv_lstore (lv' := [(5, .long (x5 ||| v8)), (10, .long v8), (0, .ref aS), (1, .long x1), (3, .int x3), (4, .int x4), (7, .long x7), (9, .int x9)]) hx hb dX2_bigParts_77 hl (by decide) rfl (fun ls hl => ?_)
              refine lv_lload hx hb dX2_bigParts_79 (lv_at hl 6 rfl) ?_
              refine lv_lload hx hb dX2_bigParts_81 (lv_at hl 1 rfl) ?_
              refine lv_ldc2 hx hb hown lk2 dX2_bigParts_83 ?_
              refine lv_lxor hx hb dX2_bigParts_86 ?_
              refine lv_land hx hb dX2_bigParts_87 ?_
              refine lv_lstore (lv' := [(7, .long (x7 &&& (v8 ^^^ (-1)))), (5, .long (x5 ||| v8)), (10, .long v8), (0, .ref aS), (1, .long x1), (3, .int x3), (4, .int x4), (9, .int x9)]) hx hb dX2_bigParts_88 hl (by decide) rfl (fun ls hl => ?_)
              refine lv_iinc (v := (x9 + 1)) (lv' := [(9, .int (x9 + 1)), (7, .long (x7 &&& (v8 ^^^ (-1)))), (5, .long (x5 ||| v8)), (10, .long v8), (0, .ref aS), (1, .long x1), (3, .int x3), (4, .int x4)]) hx hb dX2_bigParts_90 hl (k := 7) rfl rfl (by decide) rfl (fun ls hl => ?_)
              refine lv_goto (tgt := 23) hx hb dX2_bigParts_93 (by decide) ?_
              exact ih x1 x3 x4 (x5 ||| v8) (x7 &&& (v8 ^^^ (-1))) (x9 + 1) ow5 ls h (lv_sub hl [4, 5, 6, 7, 2, 1, 0] rfl)  hk
    obtain ⟨w14, hc15, h⟩ := sh_b1_e h
    refine LP13 sh_fu x1 x3 x4 0 x1 0 w14 ls hc15 (lv_sub hl [3, 4, 5, 6, 2, 1, 0] rfl)  (fun ls hl  => ?_)
    refine lv_lload hx hb dX2_bigParts_96 (lv_at hl 0 rfl) ?_
    exact sh_rol hx hb hr hlocks hQ (Option.some.inj h) dX2_bigParts_98
  · rw [if_pos g3] at h
    refine lv_lload_n hx hb dX2_bigParts_12 rfl (lv_at hl 1 rfl) ?_
    exact sh_rol hx hb hr hlocks hQ (Option.some.inj h) dX2_bigParts_13
theorem hdV_X2_thin : yX2_thin.cls = RX2 ∧ yX2_thin.cls ≠ "java/lang/invoke/MethodHandle" ∧ yX2_thin.cls ≠ "java/lang/invoke/VarHandle" ∧ (parseMethodDescriptor yX2_thin.desc).map (fun d => d.parameters.length) = some 2 := by decide +kernel
abbrev rmX2_thin : Room := { frames := 4, cells := 0, slots := 0, locals := 100 }
set_option maxHeartbeats 4000000 in
set_option maxRecDepth 100000 in
theorem k_X2_thin (l : Launch) (D : va_G) (cI cJ cZ : ClassId) (sz : Nat) (aG : Nat) (aS : Nat) (aY : Nat) (gw : Int32) (gd : Int32) (gh : Int32) (ga : Int64) (gl : Int64) (gr : Int64) (sL : Nat → Int64) (x1 : Int32) (x2 : Int32) (o : Int32) (osL : Nat → Int64) (h : fX2_thin gw gd gh ga gl gr sL x1 x2 = some (o, osL)) : Met l yX2_thin wsX2_thin rmX2_thin (sh_Pw D (sh_ty cI cJ cZ) sz [(aS, .inr (2, [.ref aG, .ref aY])), (aY, .inl (cJ, 10, .inr (.inl sL))), (aG, .inr (1, [.int gw, .int gd, .int gh, .long ga, .long gl, .long gr]))] [.ref aS, .int x1, .int x2]) (sh_Qi D (sh_ty cI cJ cZ) (va_A [(aS, .inr (2, [.ref aG, .ref aY])), (aY, .inl (cJ, 10, .inr (.inl sL))), (aG, .inr (1, [.int gw, .int gd, .int gh, .long ga, .long gl, .long gr]))] sz) [(aS, .inr (2, [.ref aG, .ref aY])), (aY, .inl (cJ, 10, .inr (.inl osL))), (aG, .inr (1, [.int gw, .int gd, .int gh, .long ga, .long gl, .long gr]))] o) 0 0 (va_A [(aS, .inr (2, [.ref aG, .ref aY])), (aY, .inl (cJ, 10, .inr (.inl sL))), (aG, .inr (1, [.int gw, .int gd, .int gh, .long ga, .long gl, .long gr]))] sz) := by
  refine Met.ofW (cc := cX2_thin) (maxL := 8) (ret := (some .int)) (by decide) rfl ?_
  intro p e s m args below meth c s₁ hB hml hv
  obtain ⟨hargs, hsz, hP, hK, hD0⟩ := hv
  have hx := hB.exec
  have hb := hB.bytes
  have hr := hB.returns
  have hts := atoms_spec (ws := wsX2_thin) hB.pre
  have hown : s.vm.findClass RX2 = some m.cls := findClass_of_methodNamed hB.named
  have hlocks := hB.notSynchronized
  have hfix : CallFix p m c cX2_thin 8 s args wsX2_thin RX2 := ⟨hx, hb, hml, hown, hts⟩
  have hinX2 : ∀ w ∈ wsX20, w ∈ wsX2_thin := by decide +kernel
  have lk1 := hts (.fieldLink RX2 9 "ShadeTree$Shades" "layers" "[J") (by decide +kernel)
  have lk2 := hts (.constantLong RX2 38 (-1)) (by decide +kernel)
  rw [show entryFrame m args 8 = entryFrame m ([.ref aS, .int x1, .int x2] : List Value).toArray 8 by rw [hargs], lg_entry_eq]
  have hl := lv_entry ([.ref aS, .int x1, .int x2]) (n := 8) (Nat.le_of_ble_eq_true rfl)
  generalize (lg_sl ([.ref aS, .int x1, .int x2]) ++ List.replicate (8 - (lg_sl ([.ref aS, .int x1, .int x2])).length) Slot.unset).toArray = ls at hl ⊢
  have hl : lv_has ls 8 [(0, .ref aS), (1, .int x1), (2, .int x2)] := hl
  subst hsz
  have hD := hD0.self (sz := s.heap.size)
  generalize hAe : va_A [(aS, .inr (2, [.ref aG, .ref aY])), (aY, .inl (cJ, 10, .inr (.inl sL))), (aG, .inr (1, [.int gw, .int gd, .int gh, .long ga, .long gl, .long gr]))] s.heap.size = Az at hD ⊢
  have hA : ∀ q : Nat, s.heap.size ≤ q → Az q := fun q h => by rw [← hAe]; exact Or.inr h
  have hS : va_S Az s.heap s.heap [] := va_S.rf
  generalize hQ : MQ below (sh_Qi D (sh_ty cI cJ cZ) Az [(aS, .inr (2, [.ref aG, .ref aY])), (aY, .inl (cJ, 10, .inr (.inl osL))), (aG, .inr (1, [.int gw, .int gd, .int gh, .long ga, .long gl, .long gr]))] o) args s 0 0 Az = Q
  unfold fX2_thin at h
  refine lv_lconst (v := 0) hx hb dX2_thin_0 (by decide) ?_
  refine lv_lstore_n (lv' := [(3, .long 0), (0, .ref aS), (1, .int x1), (2, .int x2)]) hx hb dX2_thin_1 rfl hl (by decide) rfl (fun ls hl => ?_)
  refine lv_iconst (v := 1) hx hb dX2_thin_2 (by decide) ?_
  refine lv_istore (lv' := [(5, .int 1), (3, .long 0), (0, .ref aS), (1, .int x1), (2, .int x2)]) hx hb dX2_thin_3 hl (by decide) rfl (fun ls hl => ?_)
  have LP7 : ∀ (n : Nat) (x1 : Int32) (x2 : Int32) (x3 : Int64) (x5 : Int32) (sL : Nat → Int64) (ow3 : Int64) (osL : (Nat → Int64)) (H : Heap) (locs : List Loc) (ls : Array Slot), fX2_thin_L5 n x1 x2 x3 x5 gw gd gh ga gl gr sL = some (ow3, osL) → lv_has ls 8 [(0, .ref aS), (1, .int x1), (2, .int x2), (3, .long x3), (5, .int x5)] → va_P D vwCl [(aS, .inr (2, [.ref aG, .ref aY])), (aY, .inl (cJ, 10, .inr (.inl sL))), (aG, .inr (1, [.int gw, .int gd, .int gh, .long ga, .long gl, .long gr]))] H → va_D Az [(aS, .inr (2, [.ref aG, .ref aY])), (aY, .inl (cJ, 10, .inr (.inl sL))), (aG, .inr (1, [.int gw, .int gd, .int gh, .long ga, .long gl, .long gr]))] → va_S Az s.heap H locs → (∀ (H : Heap) (locs : List Loc) (ls : Array Slot), lv_has ls 8 [(3, .long ow3)] → va_P D vwCl [(aS, .inr (2, [.ref aG, .ref aY])), (aY, .inl (cJ, 10, .inr (.inl osL))), (aG, .inr (1, [.int gw, .int gd, .int gh, .long ga, .long gl, .long gr]))] H → va_D Az [(aS, .inr (2, [.ref aG, .ref aY])), (aY, .inl (cJ, 10, .inr (.inl osL))), (aG, .inr (1, [.int gw, .int gd, .int gh, .long ga, .long gl, .long gr]))] → va_S Az s.heap H locs → W p l e (headSpec wsX2_thin rmX2_thin).room s m args below meth c H locs 0 0 Q (F0 m 62 ls [])) → W p l e (headSpec wsX2_thin rmX2_thin).room s m args below meth c H locs 0 0 Q (F0 m 5 ls []) := by
    intro n
    induction n with
    | zero =>
      intro x1 x2 x3 x5 sL ow3 osL H locs ls h hl hP hD hS hk
      exact nomatch ((fX2_thin_L5_z x1 x2 x3 x5 gw gd gh ga gl gr sL).symm.trans h)
    | succ n ih =>
      intro x1 x2 x3 x5 sL ow3 osL H locs ls h hl hP hD hS hk
      rw [fX2_thin_L5_s] at h
      refine lv_iload hx hb dX2_thin_5 (lv_at hl 4 rfl) ?_
      refine lv_aload_n hx hb dX2_thin_7 rfl (lv_at hl 0 rfl) ?_
      refine va_get (ci := 2) (v := .ref aY) (C := RX2) (T := TX2) (N := 2) hx hb hts hinX2 hown hK hP 0 rfl rfl 1 (by decide) lk1 (fun _ h9 => h9) rfl dX2_thin_8 ?_
      refine va_alen (v := 10) hx hb hK hP 1 1 rfl rfl rfl dX2_thin_11 ?_
      refine lv_icmp_ge (tgt := 62) hx hb dX2_thin_12 (by decide) (fun g1 => ?_) (fun g1 => ?_)
      · rw [if_pos g1] at h
        cases h
        exact hk _ _ ls (lv_sub hl [3] rfl) hP hD hS
      · rw [if_neg g1] at h
        refine lv_aload_n hx hb dX2_thin_15 rfl (lv_at hl 0 rfl) ?_
        refine lv_aload_n hx hb dX2_thin_16 rfl (lv_at hl 0 rfl) ?_
        refine va_get (ci := 2) (v := .ref aY) (C := RX2) (T := TX2) (N := 2) hx hb hts hinX2 hown hK hP 0 rfl rfl 1 (by decide) lk1 (fun _ h9 => h9) rfl dX2_thin_17 ?_
        refine lv_iload hx hb dX2_thin_20 (lv_at hl 4 rfl) ?_
        obtain ⟨v2, hcv2, h⟩ := sh_b1_e h
        refine sh_lald hx hb hK hP 1 1 rfl rfl (sh_ald_e hcv2) dX2_thin_22 ?_
        refine lv_iload_n hx hb dX2_thin_23 rfl (lv_at hl 1 rfl) ?_
        refine lv_iload_n hx hb dX2_thin_24 rfl (lv_at hl 2 rfl) ?_
        obtain ⟨v3, hc4, h⟩ := sh_b1_e h
        refine sh_cVl (As := [.long v2, .int x1, .int x2]) (rest := []) hfix (k_X2_bigParts l D cI cJ cZ aG aS aY gw gd gh ga gl gr sL v2 x1 x2 v3 hc4) (cwV 3 hts gX2_thin_X2_bigParts rfl rfl rfl hdV_X2_bigParts ⟨Nat.le_of_ble_eq_true rfl, Nat.le_of_ble_eq_true rfl⟩) hP hK [0, 1, 2] rfl 0 rfl rfl rfl hl.1 rfl (Nat.le_of_ble_eq_true rfl) dX2_thin_25 ⟨Nat.zero_le _, Nat.zero_le _⟩ ?_
        refine lv_lstore (lv' := [(6, .long v3), (0, .ref aS), (1, .int x1), (2, .int x2), (3, .long x3), (5, .int x5)]) hx hb dX2_thin_28 hl (by decide) rfl (fun ls hl => ?_)
        refine lv_lload_n hx hb dX2_thin_30 rfl (lv_at hl 4 rfl) ?_
        refine lv_aload_n hx hb dX2_thin_31 rfl (lv_at hl 1 rfl) ?_
        refine va_get (ci := 2) (v := .ref aY) (C := RX2) (T := TX2) (N := 2) hx hb hts hinX2 hown hK hP 0 rfl rfl 1 (by decide) lk1 (fun _ h9 => h9) rfl dX2_thin_32 ?_
        refine lv_iload hx hb dX2_thin_35 (lv_at hl 5 rfl) ?_
        obtain ⟨v5, hcv5, h⟩ := sh_b1_e h
        refine sh_lald hx hb hK hP 1 1 rfl rfl (sh_ald_e hcv5) dX2_thin_37 ?_
        refine lv_lload hx hb dX2_thin_38 (lv_at hl 0 rfl) ?_
        refine lv_ldc2 hx hb hown lk2 dX2_thin_40 ?_
        refine lv_lxor hx hb dX2_thin_43 ?_
        refine lv_land hx hb dX2_thin_44 ?_
        refine lv_lor hx hb dX2_thin_45 ?_
        refine lv_lstore_n (lv' := [(3, .long (x3 ||| (v5 &&& (v3 ^^^ (-1))))), (6, .long v3), (0, .ref aS), (1, .int x1), (2, .int x2), (5, .int x5)]) hx hb dX2_thin_46 rfl hl (by decide) rfl (fun ls hl => ?_)
        refine lv_aload_n hx hb dX2_thin_47 rfl (lv_at hl 2 rfl) ?_
        refine va_get (ci := 2) (v := .ref aY) (C := RX2) (T := TX2) (N := 2) hx hb hts hinX2 hown hK hP 0 rfl rfl 1 (by decide) lk1 (fun _ h9 => h9) rfl dX2_thin_48 ?_
        refine lv_iload hx hb dX2_thin_51 (lv_at hl 5 rfl) ?_
        refine lv_lload hx hb dX2_thin_53 (lv_at hl 1 rfl) ?_
        obtain ⟨f6, hcf6, h⟩ := sh_b1_e h
        refine sh_last (wn := [(aS, .inr (2, [.ref aG, .ref aY])), (aY, .inl (cJ, 10, .inr (.inl f6))), (aG, .inr (1, [.int gw, .int gd, .int gh, .long ga, .long gl, .long gr]))]) hx hb hK hP hD hS 1 1 rfl rfl (sh_astL_e hcf6) rfl dX2_thin_55 (fun H locs hP hD hS => ?_)
        refine lv_iinc (v := (x5 + 1)) (lv' := [(5, .int (x5 + 1)), (3, .long (x3 ||| (v5 &&& (v3 ^^^ (-1))))), (6, .long v3), (0, .ref aS), (1, .int x1), (2, .int x2)]) hx hb dX2_thin_56 hl (k := 5) rfl rfl (by decide) rfl (fun ls hl => ?_)
        refine lv_goto (tgt := 5) hx hb dX2_thin_59 (by decide) ?_
        exact ih x1 x2 (x3 ||| (v5 &&& (v3 ^^^ (-1)))) (x5 + 1) f6 ow3 osL _ _ ls h (lv_sub hl [3, 4, 5, 1, 0] rfl) hP hD hS hk
  obtain ⟨w8, w9, hc12, h⟩ := sh_b2_e h
  refine LP7 sh_fu x1 x2 0 1 sL w8 w9 _ _ ls hc12 (lv_sub hl [2, 3, 4, 1, 0] rfl) hP hD hS (fun H locs ls hl hP hD hS => ?_)
  refine lv_lload_n hx hb dX2_thin_62 rfl (lv_at hl 0 rfl) ?_
  obtain ⟨v10, hc11, h⟩ := sh_b1_e h
  refine sh_cSi (As := [.long w8]) (rest := []) hfix (k_J13_bitCount_95d88 l D cI cJ cZ w8 v10 hc11) (va_cwS 1 hts gX2_thin_J13_bitCount_95d88 rfl rfl rfl hdS_J13_bitCount_95d88 ⟨Nat.le_of_ble_eq_true rfl, Nat.le_of_ble_eq_true rfl⟩) hP hK [] rfl rfl hl.1 rfl (Nat.le_of_ble_eq_true rfl) dX2_thin_63 ⟨Nat.zero_le _, Nat.zero_le _⟩ ?_
  cases h
  exact sh_rwi hx hb hr hlocks hQ hK hP hD hS dX2_thin_66
theorem hdV_X2_copy : yX2_copy.cls = RX2 ∧ yX2_copy.cls ≠ "java/lang/invoke/MethodHandle" ∧ yX2_copy.cls ≠ "java/lang/invoke/VarHandle" ∧ (parseMethodDescriptor yX2_copy.desc).map (fun d => d.parameters.length) = some 1 := by decide +kernel
abbrev rmX2_copy : Room := { frames := 2, cells := 0, slots := 0, locals := 62 }
set_option maxHeartbeats 4000000 in
set_option maxRecDepth 100000 in
theorem k_X2_copy (l : Launch) (D : va_G) (cI cJ cZ : ClassId) (sz : Nat) (aG : Nat) (aS : Nat) (aY : Nat) (aQ : Nat) (aZ : Nat) (sL : Nat → Int64) (zL : Nat → Int64) (osL : Nat → Int64) (h : fX2_copy sL zL = some osL) : Met l yX2_copy wsX2_copy rmX2_copy (sh_Pw D (sh_ty cI cJ cZ) sz [(aS, .inr (2, [.ref aG, .ref aY])), (aY, .inl (cJ, 10, .inr (.inl sL))), (aQ, .inr (2, [.ref aG, .ref aZ])), (aZ, .inl (cJ, 10, .inr (.inl zL)))] [.ref aS, .ref aQ]) (sh_Qv D (sh_ty cI cJ cZ) (va_A [(aS, .inr (2, [.ref aG, .ref aY])), (aY, .inl (cJ, 10, .inr (.inl sL))), (aQ, .inr (2, [.ref aG, .ref aZ])), (aZ, .inl (cJ, 10, .inr (.inl zL)))] sz) [(aS, .inr (2, [.ref aG, .ref aY])), (aY, .inl (cJ, 10, .inr (.inl osL))), (aQ, .inr (2, [.ref aG, .ref aZ])), (aZ, .inl (cJ, 10, .inr (.inl zL)))]) 0 0 (va_A [(aS, .inr (2, [.ref aG, .ref aY])), (aY, .inl (cJ, 10, .inr (.inl sL))), (aQ, .inr (2, [.ref aG, .ref aZ])), (aZ, .inl (cJ, 10, .inr (.inl zL)))] sz) := by
  refine Met.ofW (cc := cX2_copy) (maxL := 2) (ret := none) (by decide) rfl ?_
  intro p e s m args below meth c s₁ hB hml hv
  obtain ⟨hargs, hsz, hP, hK, hD0⟩ := hv
  have hx := hB.exec
  have hb := hB.bytes
  have hr := hB.returns
  have hts := atoms_spec (ws := wsX2_copy) hB.pre
  have hown : s.vm.findClass RX2 = some m.cls := findClass_of_methodNamed hB.named
  have hlocks := hB.notSynchronized
  have hfix : CallFix p m c cX2_copy 2 s args wsX2_copy RX2 := ⟨hx, hb, hml, hown, hts⟩
  have hinX2 : ∀ w ∈ wsX20, w ∈ wsX2_copy := by decide +kernel
  have lk1 := hts (.fieldLink RX2 9 "ShadeTree$Shades" "layers" "[J") (by decide +kernel)
  rw [show entryFrame m args 2 = entryFrame m ([.ref aS, .ref aQ] : List Value).toArray 2 by rw [hargs], lg_entry_eq]
  have hl := lv_entry ([.ref aS, .ref aQ]) (n := 2) (Nat.le_of_ble_eq_true rfl)
  generalize (lg_sl ([.ref aS, .ref aQ]) ++ List.replicate (2 - (lg_sl ([.ref aS, .ref aQ])).length) Slot.unset).toArray = ls at hl ⊢
  have hl : lv_has ls 2 [(0, .ref aS), (1, .ref aQ)] := hl
  subst hsz
  have hD := hD0.self (sz := s.heap.size)
  generalize hAe : va_A [(aS, .inr (2, [.ref aG, .ref aY])), (aY, .inl (cJ, 10, .inr (.inl sL))), (aQ, .inr (2, [.ref aG, .ref aZ])), (aZ, .inl (cJ, 10, .inr (.inl zL)))] s.heap.size = Az at hD ⊢
  have hA : ∀ q : Nat, s.heap.size ≤ q → Az q := fun q h => by rw [← hAe]; exact Or.inr h
  have hS : va_S Az s.heap s.heap [] := va_S.rf
  generalize hQ : MQ below (sh_Qv D (sh_ty cI cJ cZ) Az [(aS, .inr (2, [.ref aG, .ref aY])), (aY, .inl (cJ, 10, .inr (.inl osL))), (aQ, .inr (2, [.ref aG, .ref aZ])), (aZ, .inl (cJ, 10, .inr (.inl zL)))]) args s 0 0 Az = Q
  unfold fX2_copy at h
  refine lv_aload_n hx hb dX2_copy_0 rfl (lv_at hl 1 rfl) ?_
  refine lv_ifnull hx hb dX2_copy_1 ?_
  refine lv_aload_n hx hb dX2_copy_4 rfl (lv_at hl 1 rfl) ?_
  refine lv_aload_n hx hb dX2_copy_5 rfl (lv_at hl 0 rfl) ?_
  refine va_get (ci := 2) (v := .ref aY) (C := RX2) (T := TX2) (N := 2) hx hb hts hinX2 hown hK hP 0 rfl rfl 1 (by decide) lk1 (fun _ h9 => h9) rfl dX2_copy_6 ?_
  refine lv_iconst (v := 0) hx hb dX2_copy_9 (by decide) ?_
  obtain ⟨u1, hc2, h⟩ := sh_b1_e h
  refine sh_wVv (wn := [(aS, .inr (2, [.ref aG, .ref aY])), (aY, .inl (cJ, 10, .inr (.inl u1))), (aQ, .inr (2, [.ref aG, .ref aZ])), (aZ, .inl (cJ, 10, .inr (.inl zL)))]) (As := [.ref aY, .int 0]) (rest := []) hfix (k_X2_store l D cI cJ cZ _ aG aQ aZ aY zL 10 sL 0 u1 hc2) (cwV 2 hts gX2_copy_X2_store rfl rfl rfl hdV_X2_store ⟨Nat.le_of_ble_eq_true rfl, Nat.le_of_ble_eq_true rfl⟩) hP hK hD hS hA [2, 3, 1] [0] [0, 3, 1, 2] rfl rfl rfl rfl rfl rfl rfl 2 rfl rfl rfl hl.1 rfl (Nat.le_of_ble_eq_true rfl) dX2_copy_10 ⟨Nat.zero_le _, Nat.zero_le _⟩ (fun H locs hP hD hS => ?_)
  cases h
  exact sh_rwv hx hb hr hlocks hQ hK hP hD hS dX2_copy_13
theorem hdV_X3_size : yX3_size.cls = RX3 ∧ yX3_size.cls ≠ "java/lang/invoke/MethodHandle" ∧ yX3_size.cls ≠ "java/lang/invoke/VarHandle" ∧ (parseMethodDescriptor yX3_size.desc).map (fun d => d.parameters.length) = some 0 := by decide +kernel
abbrev rmX3_size : Room := { frames := 0, cells := 0, slots := 0, locals := 0 }
set_option maxHeartbeats 4000000 in
set_option maxRecDepth 100000 in
theorem k_X3_size (l : Launch) (D : va_G) (cI cJ cZ : ClassId) (aV : Nat) (a1 : Nat) (a2 : Nat) (a3 : Nat) (sv1 : Nat → Int32) (sv2 : Nat → Int32) (sv3 : Nat → Int32) (vz : Int32) (o : Int32) (h : fX3_size vz = some o) : Met l yX3_size wsX3_size rmX3_size (sh_Pr D (sh_ty cI cJ cZ) [(aV, .inr (3, [.ref a1, .ref a2, .ref a3, .int vz])), (a1, .inl (cI, 6, .inl sv1)), (a2, .inl (cI, 6, .inl sv2)), (a3, .inl (cZ, 6, .inl sv3))] [.ref aV]) (vp_Si (fun z => z = o)) 0 0 (fun _ => False) := by
  refine Met.ofW (cc := cX3_size) (maxL := 1) (ret := (some .int)) (by decide) rfl ?_
  intro p e s m args below meth c s₁ hB hml hv
  obtain ⟨hargs, hP, hK⟩ := hv
  have hx := hB.exec
  have hb := hB.bytes
  have hr := hB.returns
  have hts := atoms_spec (ws := wsX3_size) hB.pre
  have hown : s.vm.findClass RX3 = some m.cls := findClass_of_methodNamed hB.named
  have hlocks := hB.notSynchronized
  have hfix : CallFix p m c cX3_size 1 s args wsX3_size RX3 := ⟨hx, hb, hml, hown, hts⟩
  have hinX3 : ∀ w ∈ wsX30, w ∈ wsX3_size := by decide +kernel
  have lk1 := hts (.fieldLink RX3 20 "ShadeTree$Sights" "size" "I") (by decide +kernel)
  rw [show entryFrame m args 1 = entryFrame m ([.ref aV] : List Value).toArray 1 by rw [hargs], lg_entry_eq]
  have hl := lv_entry ([.ref aV]) (n := 1) (Nat.le_of_ble_eq_true rfl)
  generalize (lg_sl ([.ref aV]) ++ List.replicate (1 - (lg_sl ([.ref aV])).length) Slot.unset).toArray = ls at hl ⊢
  have hl : lv_has ls 1 [(0, .ref aV)] := hl
  generalize hQ : MQ below (vp_Si (fun z => z = o)) args s 0 0 (fun _ => False) = Q
  unfold fX3_size at h
  refine lv_aload_n hx hb dX3_size_0 rfl (lv_at hl 0 rfl) ?_
  refine va_get (ci := 3) (v := .int vz) (C := RX3) (T := TX3) (N := 4) hx hb hts hinX3 hown hK hP 0 rfl rfl 3 (by decide) lk1 (fun _ h9 => h9) rfl dX3_size_1 ?_
  exact sh_roi hx hb hr hlocks hQ (Option.some.inj h) dX3_size_4
theorem hdV_X3_clear : yX3_clear.cls = RX3 ∧ yX3_clear.cls ≠ "java/lang/invoke/MethodHandle" ∧ yX3_clear.cls ≠ "java/lang/invoke/VarHandle" ∧ (parseMethodDescriptor yX3_clear.desc).map (fun d => d.parameters.length) = some 0 := by decide +kernel
abbrev rmX3_clear : Room := { frames := 0, cells := 0, slots := 0, locals := 0 }
set_option maxHeartbeats 4000000 in
set_option maxRecDepth 100000 in
theorem k_X3_clear (l : Launch) (D : va_G) (cI cJ cZ : ClassId) (sz : Nat) (aV : Nat) (a1 : Nat) (a2 : Nat) (a3 : Nat) (sv1 : Nat → Int32) (sv2 : Nat → Int32) (sv3 : Nat → Int32) (vz : Int32) (ovz : Int32) (h : fX3_clear = some ovz) : Met l yX3_clear wsX3_clear rmX3_clear (sh_Pw D (sh_ty cI cJ cZ) sz [(aV, .inr (3, [.ref a1, .ref a2, .ref a3, .int vz])), (a1, .inl (cI, 6, .inl sv1)), (a2, .inl (cI, 6, .inl sv2)), (a3, .inl (cZ, 6, .inl sv3))] [.ref aV]) (sh_Qv D (sh_ty cI cJ cZ) (va_A [(aV, .inr (3, [.ref a1, .ref a2, .ref a3, .int vz])), (a1, .inl (cI, 6, .inl sv1)), (a2, .inl (cI, 6, .inl sv2)), (a3, .inl (cZ, 6, .inl sv3))] sz) [(aV, .inr (3, [.ref a1, .ref a2, .ref a3, .int ovz])), (a1, .inl (cI, 6, .inl sv1)), (a2, .inl (cI, 6, .inl sv2)), (a3, .inl (cZ, 6, .inl sv3))]) 0 0 (va_A [(aV, .inr (3, [.ref a1, .ref a2, .ref a3, .int vz])), (a1, .inl (cI, 6, .inl sv1)), (a2, .inl (cI, 6, .inl sv2)), (a3, .inl (cZ, 6, .inl sv3))] sz) := by
  refine Met.ofW (cc := cX3_clear) (maxL := 1) (ret := none) (by decide) rfl ?_
  intro p e s m args below meth c s₁ hB hml hv
  obtain ⟨hargs, hsz, hP, hK, hD0⟩ := hv
  have hx := hB.exec
  have hb := hB.bytes
  have hr := hB.returns
  have hts := atoms_spec (ws := wsX3_clear) hB.pre
  have hown : s.vm.findClass RX3 = some m.cls := findClass_of_methodNamed hB.named
  have hlocks := hB.notSynchronized
  have hfix : CallFix p m c cX3_clear 1 s args wsX3_clear RX3 := ⟨hx, hb, hml, hown, hts⟩
  have hinX3 : ∀ w ∈ wsX30, w ∈ wsX3_clear := by decide +kernel
  have lk1 := hts (.fieldLink RX3 20 "ShadeTree$Sights" "size" "I") (by decide +kernel)
  rw [show entryFrame m args 1 = entryFrame m ([.ref aV] : List Value).toArray 1 by rw [hargs], lg_entry_eq]
  have hl := lv_entry ([.ref aV]) (n := 1) (Nat.le_of_ble_eq_true rfl)
  generalize (lg_sl ([.ref aV]) ++ List.replicate (1 - (lg_sl ([.ref aV])).length) Slot.unset).toArray = ls at hl ⊢
  have hl : lv_has ls 1 [(0, .ref aV)] := hl
  subst hsz
  have hD := hD0.self (sz := s.heap.size)
  generalize hAe : va_A [(aV, .inr (3, [.ref a1, .ref a2, .ref a3, .int vz])), (a1, .inl (cI, 6, .inl sv1)), (a2, .inl (cI, 6, .inl sv2)), (a3, .inl (cZ, 6, .inl sv3))] s.heap.size = Az at hD ⊢
  have hA : ∀ q : Nat, s.heap.size ≤ q → Az q := fun q h => by rw [← hAe]; exact Or.inr h
  have hS : va_S Az s.heap s.heap [] := va_S.rf
  generalize hQ : MQ below (sh_Qv D (sh_ty cI cJ cZ) Az [(aV, .inr (3, [.ref a1, .ref a2, .ref a3, .int ovz])), (a1, .inl (cI, 6, .inl sv1)), (a2, .inl (cI, 6, .inl sv2)), (a3, .inl (cZ, 6, .inl sv3))]) args s 0 0 Az = Q
  unfold fX3_clear at h
  refine lv_aload_n hx hb dX3_clear_0 rfl (lv_at hl 0 rfl) ?_
  refine lv_iconst (v := 0) hx hb dX3_clear_1 (by decide) ?_
  refine sh_put (wn := [(aV, .inr (3, [.ref a1, .ref a2, .ref a3, .int 0])), (a1, .inl (cI, 6, .inl sv1)), (a2, .inl (cI, 6, .inl sv2)), (a3, .inl (cZ, 6, .inl sv3))]) (ci := 3) (v := .int 0) (ty := .int) (C := RX3) (T := TX3) (N := 4) hx hb hts hinX3 tyX3 tyX3_ok nmX3 hown hK hP hD hS 0 rfl rfl 3 (by decide) lk1 (fun _ h9 => h9) rfl (by decide +kernel) rfl rfl (Nat.le_of_ble_eq_true rfl) rfl dX3_clear_2 (fun H locs hP hD hS => ?_)
  cases h
  exact sh_rwv hx hb hr hlocks hQ hK hP hD hS dX3_clear_5
theorem hdV_X3_add : yX3_add.cls = RX3 ∧ yX3_add.cls ≠ "java/lang/invoke/MethodHandle" ∧ yX3_add.cls ≠ "java/lang/invoke/VarHandle" ∧ (parseMethodDescriptor yX3_add.desc).map (fun d => d.parameters.length) = some 3 := by decide +kernel
abbrev rmX3_add : Room := { frames := 0, cells := 0, slots := 0, locals := 0 }
set_option maxHeartbeats 4000000 in
set_option maxRecDepth 100000 in
theorem k_X3_add (l : Launch) (D : va_G) (cI cJ cZ : ClassId) (sz : Nat) (aV : Nat) (a1 : Nat) (a2 : Nat) (a3 : Nat) (sv1 : Nat → Int32) (sv2 : Nat → Int32) (sv3 : Nat → Int32) (vz : Int32) (x1 : Int32) (x2 : Int32) (x3 : Int32) (o : Int32) (osv1 : Nat → Int32) (osv2 : Nat → Int32) (osv3 : Nat → Int32) (ovz : Int32) (h : fX3_add sv1 sv2 sv3 vz x1 x2 x3 = some (o, osv1, osv2, osv3, ovz)) : Met l yX3_add wsX3_add rmX3_add (sh_Pw D (sh_ty cI cJ cZ) sz [(aV, .inr (3, [.ref a1, .ref a2, .ref a3, .int vz])), (a1, .inl (cI, 6, .inl sv1)), (a2, .inl (cI, 6, .inl sv2)), (a3, .inl (cZ, 6, .inl sv3))] [.ref aV, .int x1, .int x2, .int x3]) (sh_Qi D (sh_ty cI cJ cZ) (va_A [(aV, .inr (3, [.ref a1, .ref a2, .ref a3, .int vz])), (a1, .inl (cI, 6, .inl sv1)), (a2, .inl (cI, 6, .inl sv2)), (a3, .inl (cZ, 6, .inl sv3))] sz) [(aV, .inr (3, [.ref a1, .ref a2, .ref a3, .int ovz])), (a1, .inl (cI, 6, .inl osv1)), (a2, .inl (cI, 6, .inl osv2)), (a3, .inl (cZ, 6, .inl osv3))] o) 0 0 (va_A [(aV, .inr (3, [.ref a1, .ref a2, .ref a3, .int vz])), (a1, .inl (cI, 6, .inl sv1)), (a2, .inl (cI, 6, .inl sv2)), (a3, .inl (cZ, 6, .inl sv3))] sz) := by
  refine Met.ofW (cc := cX3_add) (maxL := 4) (ret := (some .boolean)) (by decide) rfl ?_
  intro p e s m args below meth c s₁ hB hml hv
  obtain ⟨hargs, hsz, hP, hK, hD0⟩ := hv
  have hx := hB.exec
  have hb := hB.bytes
  have hr := hB.returns
  have hts := atoms_spec (ws := wsX3_add) hB.pre
  have hown : s.vm.findClass RX3 = some m.cls := findClass_of_methodNamed hB.named
  have hlocks := hB.notSynchronized
  have hfix : CallFix p m c cX3_add 4 s args wsX3_add RX3 := ⟨hx, hb, hml, hown, hts⟩
  have hinX3 : ∀ w ∈ wsX30, w ∈ wsX3_add := by decide +kernel
  have lk1 := hts (.fieldLink RX3 20 "ShadeTree$Sights" "size" "I") (by decide +kernel)
  have lk2 := hts (.fieldLink RX3 9 "ShadeTree$Sights" "ones" "[I") (by decide +kernel)
  have lk3 := hts (.fieldLink RX3 13 "ShadeTree$Sights" "others" "[I") (by decide +kernel)
  have lk4 := hts (.fieldLink RX3 16 "ShadeTree$Sights" "joined" "[Z") (by decide +kernel)
  rw [show entryFrame m args 4 = entryFrame m ([.ref aV, .int x1, .int x2, .int x3] : List Value).toArray 4 by rw [hargs], lg_entry_eq]
  have hl := lv_entry ([.ref aV, .int x1, .int x2, .int x3]) (n := 4) (Nat.le_of_ble_eq_true rfl)
  generalize (lg_sl ([.ref aV, .int x1, .int x2, .int x3]) ++ List.replicate (4 - (lg_sl ([.ref aV, .int x1, .int x2, .int x3])).length) Slot.unset).toArray = ls at hl ⊢
  have hl : lv_has ls 4 [(0, .ref aV), (1, .int x1), (2, .int x2), (3, .int x3)] := hl
  subst hsz
  have hD := hD0.self (sz := s.heap.size)
  generalize hAe : va_A [(aV, .inr (3, [.ref a1, .ref a2, .ref a3, .int vz])), (a1, .inl (cI, 6, .inl sv1)), (a2, .inl (cI, 6, .inl sv2)), (a3, .inl (cZ, 6, .inl sv3))] s.heap.size = Az at hD ⊢
  have hA : ∀ q : Nat, s.heap.size ≤ q → Az q := fun q h => by rw [← hAe]; exact Or.inr h
  have hS : va_S Az s.heap s.heap [] := va_S.rf
  generalize hQ : MQ below (sh_Qi D (sh_ty cI cJ cZ) Az [(aV, .inr (3, [.ref a1, .ref a2, .ref a3, .int ovz])), (a1, .inl (cI, 6, .inl osv1)), (a2, .inl (cI, 6, .inl osv2)), (a3, .inl (cZ, 6, .inl osv3))] o) args s 0 0 Az = Q
  unfold fX3_add at h
  refine lv_aload_n hx hb dX3_add_0 rfl (lv_at hl 0 rfl) ?_
  refine va_get (ci := 3) (v := .int vz) (C := RX3) (T := TX3) (N := 4) hx hb hts hinX3 hown hK hP 0 rfl rfl 3 (by decide) lk1 (fun _ h9 => h9) rfl dX3_add_1 ?_
  refine lv_if_lt (tgt := 16) hx hb dX3_add_4 (by decide) (fun g1 => ?_) (fun g1 => ?_)
  · rw [if_pos g1] at h
    refine lv_iconst (v := 0) hx hb dX3_add_16 (by decide) ?_
    cases h
    exact sh_rwz hx hb hr hlocks hQ rfl hK hP hD hS dX3_add_17
  · rw [if_neg g1] at h
    refine lv_aload_n hx hb dX3_add_7 rfl (lv_at hl 0 rfl) ?_
    refine va_get (ci := 3) (v := .int vz) (C := RX3) (T := TX3) (N := 4) hx hb hts hinX3 hown hK hP 0 rfl rfl 3 (by decide) lk1 (fun _ h9 => h9) rfl dX3_add_8 ?_
    refine lv_bipush (v := 6) hx hb dX3_add_11 (by decide) ?_
    refine lv_icmp_lt (tgt := 18) hx hb dX3_add_13 (by decide) (fun g2 => ?_) (fun g2 => ?_)
    · rw [if_pos g2] at h
      refine lv_aload_n hx hb dX3_add_18 rfl (lv_at hl 0 rfl) ?_
      refine va_get (ci := 3) (v := .ref a1) (C := RX3) (T := TX3) (N := 4) hx hb hts hinX3 hown hK hP 0 rfl rfl 0 (by decide) lk2 (fun _ h9 => h9) rfl dX3_add_19 ?_
      refine lv_aload_n hx hb dX3_add_22 rfl (lv_at hl 0 rfl) ?_
      refine va_get (ci := 3) (v := .int vz) (C := RX3) (T := TX3) (N := 4) hx hb hts hinX3 hown hK hP 0 rfl rfl 3 (by decide) lk1 (fun _ h9 => h9) rfl dX3_add_23 ?_
      refine lv_iload_n hx hb dX3_add_26 rfl (lv_at hl 1 rfl) ?_
      obtain ⟨f3, hcf3, h⟩ := sh_b1_e h
      refine sh_iast (wn := [(aV, .inr (3, [.ref a1, .ref a2, .ref a3, .int vz])), (a1, .inl (cI, 6, .inl f3)), (a2, .inl (cI, 6, .inl sv2)), (a3, .inl (cZ, 6, .inl sv3))]) hx hb hK hP hD hS 1 0 rfl rfl (sh_ast_e hcf3) rfl dX3_add_27 (fun H locs hP hD hS => ?_)
      refine lv_aload_n hx hb dX3_add_28 rfl (lv_at hl 0 rfl) ?_
      refine va_get (ci := 3) (v := .ref a2) (C := RX3) (T := TX3) (N := 4) hx hb hts hinX3 hown hK hP 0 rfl rfl 1 (by decide) lk3 (fun _ h9 => h9) rfl dX3_add_29 ?_
      refine lv_aload_n hx hb dX3_add_32 rfl (lv_at hl 0 rfl) ?_
      refine va_get (ci := 3) (v := .int vz) (C := RX3) (T := TX3) (N := 4) hx hb hts hinX3 hown hK hP 0 rfl rfl 3 (by decide) lk1 (fun _ h9 => h9) rfl dX3_add_33 ?_
      refine lv_iload_n hx hb dX3_add_36 rfl (lv_at hl 2 rfl) ?_
      obtain ⟨f4, hcf4, h⟩ := sh_b1_e h
      refine sh_iast (wn := [(aV, .inr (3, [.ref a1, .ref a2, .ref a3, .int vz])), (a1, .inl (cI, 6, .inl f3)), (a2, .inl (cI, 6, .inl f4)), (a3, .inl (cZ, 6, .inl sv3))]) hx hb hK hP hD hS 2 0 rfl rfl (sh_ast_e hcf4) rfl dX3_add_37 (fun H locs hP hD hS => ?_)
      refine lv_aload_n hx hb dX3_add_38 rfl (lv_at hl 0 rfl) ?_
      refine va_get (ci := 3) (v := .ref a3) (C := RX3) (T := TX3) (N := 4) hx hb hts hinX3 hown hK hP 0 rfl rfl 2 (by decide) lk4 (fun _ h9 => h9) rfl dX3_add_39 ?_
      refine lv_aload_n hx hb dX3_add_42 rfl (lv_at hl 0 rfl) ?_
      refine va_get (ci := 3) (v := .int vz) (C := RX3) (T := TX3) (N := 4) hx hb hts hinX3 hown hK hP 0 rfl rfl 3 (by decide) lk1 (fun _ h9 => h9) rfl dX3_add_43 ?_
      refine lv_iload_n hx hb dX3_add_46 rfl (lv_at hl 3 rfl) ?_
      obtain ⟨f5, hcf5, h⟩ := sh_b1_e h
      refine sh_zast (wn := [(aV, .inr (3, [.ref a1, .ref a2, .ref a3, .int vz])), (a1, .inl (cI, 6, .inl f3)), (a2, .inl (cI, 6, .inl f4)), (a3, .inl (cZ, 6, .inl f5))]) hx hb hK hP hD hS 3 2 rfl rfl (sh_astZ_e hcf5) rfl dX3_add_47 (fun H locs hP hD hS => ?_)
      refine lv_aload_n hx hb dX3_add_48 rfl (lv_at hl 0 rfl) ?_
      refine lv_dup hx hb dX3_add_49 rfl ?_
      refine va_get (ci := 3) (v := .int vz) (C := RX3) (T := TX3) (N := 4) hx hb hts hinX3 hown hK hP 0 rfl rfl 3 (by decide) lk1 (fun _ h9 => h9) rfl dX3_add_50 ?_
      refine lv_iconst (v := 1) hx hb dX3_add_53 (by decide) ?_
      refine lv_iadd hx hb dX3_add_54 ?_
      refine sh_put (wn := [(aV, .inr (3, [.ref a1, .ref a2, .ref a3, .int (vz + 1)])), (a1, .inl (cI, 6, .inl f3)), (a2, .inl (cI, 6, .inl f4)), (a3, .inl (cZ, 6, .inl f5))]) (ci := 3) (v := .int (vz + 1)) (ty := .int) (C := RX3) (T := TX3) (N := 4) hx hb hts hinX3 tyX3 tyX3_ok nmX3 hown hK hP hD hS 0 rfl rfl 3 (by decide) lk1 (fun _ h9 => h9) rfl (by decide +kernel) rfl rfl (Nat.le_of_ble_eq_true rfl) rfl dX3_add_55 (fun H locs hP hD hS => ?_)
      refine lv_iconst (v := 1) hx hb dX3_add_58 (by decide) ?_
      cases h
      exact sh_rwz hx hb hr hlocks hQ rfl hK hP hD hS dX3_add_59
    · rw [if_neg g2] at h
      refine lv_iconst (v := 0) hx hb dX3_add_16 (by decide) ?_
      cases h
      exact sh_rwz hx hb hr hlocks hQ rfl hK hP hD hS dX3_add_17
theorem hdV_X3_hold : yX3_hold.cls = RX3 ∧ yX3_hold.cls ≠ "java/lang/invoke/MethodHandle" ∧ yX3_hold.cls ≠ "java/lang/invoke/VarHandle" ∧ (parseMethodDescriptor yX3_hold.desc).map (fun d => d.parameters.length) = some 3 := by decide +kernel
abbrev rmX3_hold : Room := { frames := 3, cells := 0, slots := 0, locals := 82 }
set_option maxHeartbeats 4000000 in
set_option maxRecDepth 100000 in
theorem k_X3_hold (l : Launch) (D : va_G) (cI cJ cZ : ClassId) (aV : Nat) (a1 : Nat) (a2 : Nat) (a3 : Nat) (aG : Nat) (sv1 : Nat → Int32) (sv2 : Nat → Int32) (sv3 : Nat → Int32) (vz : Int32) (gw : Int32) (gd : Int32) (gh : Int32) (ga : Int64) (gl : Int64) (gr : Int64) (x2 : Int64) (x4 : Int32) (o : Int32) (h : fX3_hold sv1 sv2 sv3 vz gw gd gh ga gl gr x2 x4 = some o) : Met l yX3_hold wsX3_hold rmX3_hold (sh_Pr D (sh_ty cI cJ cZ) [(aV, .inr (3, [.ref a1, .ref a2, .ref a3, .int vz])), (a1, .inl (cI, 6, .inl sv1)), (a2, .inl (cI, 6, .inl sv2)), (a3, .inl (cZ, 6, .inl sv3)), (aG, .inr (1, [.int gw, .int gd, .int gh, .long ga, .long gl, .long gr]))] [.ref aV, .ref aG, .long x2, .int x4]) (vp_Si (fun z => z = o)) 0 0 (fun _ => False) := by
  refine Met.ofW (cc := cX3_hold) (maxL := 6) (ret := (some .boolean)) (by decide) rfl ?_
  intro p e s m args below meth c s₁ hB hml hv
  obtain ⟨hargs, hP, hK⟩ := hv
  have hx := hB.exec
  have hb := hB.bytes
  have hr := hB.returns
  have hts := atoms_spec (ws := wsX3_hold) hB.pre
  have hown : s.vm.findClass RX3 = some m.cls := findClass_of_methodNamed hB.named
  have hlocks := hB.notSynchronized
  have hfix : CallFix p m c cX3_hold 6 s args wsX3_hold RX3 := ⟨hx, hb, hml, hown, hts⟩
  have hinX3 : ∀ w ∈ wsX30, w ∈ wsX3_hold := by decide +kernel
  have lk1 := hts (.fieldLink RX3 20 "ShadeTree$Sights" "size" "I") (by decide +kernel)
  have lk2 := hts (.fieldLink RX3 9 "ShadeTree$Sights" "ones" "[I") (by decide +kernel)
  have lk3 := hts (.fieldLink RX3 13 "ShadeTree$Sights" "others" "[I") (by decide +kernel)
  have lk4 := hts (.fieldLink RX3 16 "ShadeTree$Sights" "joined" "[Z") (by decide +kernel)
  rw [show entryFrame m args 6 = entryFrame m ([.ref aV, .ref aG, .long x2, .int x4] : List Value).toArray 6 by rw [hargs], lg_entry_eq]
  have hl := lv_entry ([.ref aV, .ref aG, .long x2, .int x4]) (n := 6) (Nat.le_of_ble_eq_true rfl)
  generalize (lg_sl ([.ref aV, .ref aG, .long x2, .int x4]) ++ List.replicate (6 - (lg_sl ([.ref aV, .ref aG, .long x2, .int x4])).length) Slot.unset).toArray = ls at hl ⊢
  have hl : lv_has ls 6 [(0, .ref aV), (1, .ref aG), (2, .long x2), (4, .int x4)] := hl
  generalize hQ : MQ below (vp_Si (fun z => z = o)) args s 0 0 (fun _ => False) = Q
  unfold fX3_hold at h
  refine lv_aload_n hx hb dX3_hold_0 rfl (lv_at hl 1 rfl) ?_
  refine lv_ifnonnull (tgt := 6) hx hb dX3_hold_1 (by decide) ?_
  refine lv_iconst (v := 0) hx hb dX3_hold_6 (by decide) ?_
  refine lv_istore (lv' := [(5, .int 0), (0, .ref aV), (1, .ref aG), (2, .long x2), (4, .int x4)]) hx hb dX3_hold_7 hl (by decide) rfl (fun ls hl => ?_)
  have LP9 : ∀ (n : Nat) (x2 : Int64) (x4 : Int32) (x5 : Int32) (z : (Int32) ⊕ (Unit)) (ls : Array Slot), fX3_hold_L9 n x2 x4 x5 sv1 sv2 sv3 vz gw gd gh ga gl gr = some z → lv_has ls 6 [(0, .ref aV), (1, .ref aG), (2, .long x2), (4, .int x4), (5, .int x5)] → (∀ x, z = .inl x → x = o) → (∀ (t : Unit), z = .inr t → ∀ (ls : Array Slot), lv_has ls 6 [] → W p l e (headSpec wsX3_hold rmX3_hold).room s m args below meth c s.heap [] 0 0 Q (F0 m 64 ls [])) → W p l e (headSpec wsX3_hold rmX3_hold).room s m args below meth c s.heap [] 0 0 Q (F0 m 9 ls []) := by
    intro n
    induction n with
    | zero =>
      intro x2 x4 x5 z ls h hl hret hk
      exact nomatch ((fX3_hold_L9_z x2 x4 x5 sv1 sv2 sv3 vz gw gd gh ga gl gr).symm.trans h)
    | succ n ih =>
      intro x2 x4 x5 z ls h hl hret hk
      rw [fX3_hold_L9_s] at h
      refine lv_iload hx hb dX3_hold_9 (lv_at hl 4 rfl) ?_
      refine lv_aload_n hx hb dX3_hold_11 rfl (lv_at hl 0 rfl) ?_
      refine va_get (ci := 3) (v := .int vz) (C := RX3) (T := TX3) (N := 4) hx hb hts hinX3 hown hK hP 0 rfl rfl 3 (by decide) lk1 (fun _ h9 => h9) rfl dX3_hold_12 ?_
      refine lv_icmp_ge (tgt := 64) hx hb dX3_hold_15 (by decide) (fun g1 => ?_) (fun g1 => ?_)
      · rw [if_pos g1] at h
        exact hk () (Option.some.inj h).symm ls (lv_sub hl [] rfl) 
      · rw [if_neg g1] at h
        refine lv_iload hx hb dX3_hold_18 (lv_at hl 4 rfl) ?_
        refine lv_bipush (v := 6) hx hb dX3_hold_20 (by decide) ?_
        refine lv_icmp_ge (tgt := 64) hx hb dX3_hold_22 (by decide) (fun g2 => ?_) (fun g2 => ?_)
        · rw [if_pos g2] at h
          exact hk () (Option.some.inj h).symm ls (lv_sub hl [] rfl) 
        · rw [if_neg g2] at h
          refine lv_aload_n hx hb dX3_hold_25 rfl (lv_at hl 1 rfl) ?_
          refine lv_lload_n hx hb dX3_hold_26 rfl (lv_at hl 2 rfl) ?_
          refine lv_aload_n hx hb dX3_hold_27 rfl (lv_at hl 0 rfl) ?_
          refine va_get (ci := 3) (v := .ref a1) (C := RX3) (T := TX3) (N := 4) hx hb hts hinX3 hown hK hP 0 rfl rfl 0 (by decide) lk2 (fun _ h9 => h9) rfl dX3_hold_28 ?_
          refine lv_iload hx hb dX3_hold_31 (lv_at hl 4 rfl) ?_
          obtain ⟨v3, hcv3, h⟩ := sh_b1_e h
          refine sh_iald hx hb hK hP 1 0 rfl rfl (sh_ald_e hcv3) dX3_hold_33 ?_
          refine lv_aload_n hx hb dX3_hold_34 rfl (lv_at hl 0 rfl) ?_
          refine va_get (ci := 3) (v := .ref a2) (C := RX3) (T := TX3) (N := 4) hx hb hts hinX3 hown hK hP 0 rfl rfl 1 (by decide) lk3 (fun _ h9 => h9) rfl dX3_hold_35 ?_
          refine lv_iload hx hb dX3_hold_38 (lv_at hl 4 rfl) ?_
          obtain ⟨v4, hcv4, h⟩ := sh_b1_e h
          refine sh_iald hx hb hK hP 2 0 rfl rfl (sh_ald_e hcv4) dX3_hold_40 ?_
          refine lv_iload hx hb dX3_hold_41 (lv_at hl 3 rfl) ?_
          obtain ⟨v5, hc6, h⟩ := sh_b1_e h
          refine sh_cVi (As := [.long x2, .int v3, .int v4, .int x4]) (rest := []) hfix (k_X1_joined l D cI cJ cZ aG gw gd gh ga gl gr x2 v3 v4 x4 v5 hc6) (cwV 4 hts gX3_hold_X1_joined rfl rfl rfl hdV_X1_joined ⟨Nat.le_of_ble_eq_true rfl, Nat.le_of_ble_eq_true rfl⟩) hP hK [4] rfl 4 rfl rfl rfl hl.1 rfl (Nat.le_of_ble_eq_true rfl) dX3_hold_43 ⟨Nat.zero_le _, Nat.zero_le _⟩ ?_
          refine lv_aload_n hx hb dX3_hold_46 rfl (lv_at hl 0 rfl) ?_
          refine va_get (ci := 3) (v := .ref a3) (C := RX3) (T := TX3) (N := 4) hx hb hts hinX3 hown hK hP 0 rfl rfl 2 (by decide) lk4 (fun _ h9 => h9) rfl dX3_hold_47 ?_
          refine lv_iload hx hb dX3_hold_50 (lv_at hl 4 rfl) ?_
          obtain ⟨v7, hcv7, h⟩ := sh_b1_e h
          refine sh_zald hx hb hK hP 3 2 rfl rfl (sh_ald_e hcv7) dX3_hold_52 ?_
          refine lv_icmp_eq (tgt := 58) hx hb dX3_hold_53 (by decide) (fun g8 => ?_) (fun g8 => ?_)
          · rw [if_pos g8] at h
            refine lv_iinc (v := (x5 + 1)) (lv' := [(5, .int (x5 + 1)), (0, .ref aV), (1, .ref aG), (2, .long x2), (4, .int x4)]) hx hb dX3_hold_58 hl (k := 4) rfl rfl (by decide) rfl (fun ls hl => ?_)
            refine lv_goto (tgt := 9) hx hb dX3_hold_61 (by decide) ?_
            exact ih x2 x4 (x5 + 1) z ls h (lv_sub hl [1, 2, 3, 4, 0] rfl)  hret hk
          · rw [if_neg g8] at h
            refine lv_iconst (v := 0) hx hb dX3_hold_56 (by decide) ?_
            exact sh_roz hx hb hr hlocks hQ ⟨rfl, (hret _ (Option.some.inj h).symm)⟩ dX3_hold_57
  obtain ⟨z10, hcz10, hrz10, hkz10⟩ := sh_bs_e h
  refine LP9 sh_fu x2 x4 0 z10 ls hcz10 (lv_sub hl [1, 2, 3, 4, 0] rfl)  hrz10 (fun t11 et11 ls hl  => ?_)
  have h := hkz10 t11 et11
  refine lv_iconst (v := 1) hx hb dX3_hold_64 (by decide) ?_
  exact sh_roz hx hb hr hlocks hQ ⟨rfl, (Option.some.inj h)⟩ dX3_hold_65
theorem hdV_X4_clear : yX4_clear.cls = RX4 ∧ yX4_clear.cls ≠ "java/lang/invoke/MethodHandle" ∧ yX4_clear.cls ≠ "java/lang/invoke/VarHandle" ∧ (parseMethodDescriptor yX4_clear.desc).map (fun d => d.parameters.length) = some 0 := by decide +kernel
abbrev rmX4_clear : Room := { frames := 0, cells := 0, slots := 0, locals := 0 }
set_option maxHeartbeats 4000000 in
set_option maxRecDepth 100000 in
theorem k_X4_clear (l : Launch) (D : va_G) (cI cJ cZ : ClassId) (sz : Nat) (aK : Nat) (aH : Nat) (aU : Nat) (kK : Nat → Int64) (kU : Nat → Int32) (okU : Nat → Int32) (h : fX4_clear kU = some okU) : Met l yX4_clear wsX4_clear rmX4_clear (sh_Pw D (sh_ty cI cJ cZ) sz [(aK, .inr (4, [.ref aH, .ref aU])), (aH, .inl (cJ, 20, .inr (.inl kK))), (aU, .inl (cZ, 2, .inl kU))] [.ref aK]) (sh_Qv D (sh_ty cI cJ cZ) (va_A [(aK, .inr (4, [.ref aH, .ref aU])), (aH, .inl (cJ, 20, .inr (.inl kK))), (aU, .inl (cZ, 2, .inl kU))] sz) [(aK, .inr (4, [.ref aH, .ref aU])), (aH, .inl (cJ, 20, .inr (.inl kK))), (aU, .inl (cZ, 2, .inl okU))]) 0 0 (va_A [(aK, .inr (4, [.ref aH, .ref aU])), (aH, .inl (cJ, 20, .inr (.inl kK))), (aU, .inl (cZ, 2, .inl kU))] sz) := by
  refine Met.ofW (cc := cX4_clear) (maxL := 2) (ret := none) (by decide) rfl ?_
  intro p e s m args below meth c s₁ hB hml hv
  obtain ⟨hargs, hsz, hP, hK, hD0⟩ := hv
  have hx := hB.exec
  have hb := hB.bytes
  have hr := hB.returns
  have hts := atoms_spec (ws := wsX4_clear) hB.pre
  have hown : s.vm.findClass RX4 = some m.cls := findClass_of_methodNamed hB.named
  have hlocks := hB.notSynchronized
  have hfix : CallFix p m c cX4_clear 2 s args wsX4_clear RX4 := ⟨hx, hb, hml, hown, hts⟩
  have hinX4 : ∀ w ∈ wsX40, w ∈ wsX4_clear := by decide +kernel
  have lk1 := hts (.fieldLink RX4 15 "ShadeTree$Slots" "used" "[Z") (by decide +kernel)
  rw [show entryFrame m args 2 = entryFrame m ([.ref aK] : List Value).toArray 2 by rw [hargs], lg_entry_eq]
  have hl := lv_entry ([.ref aK]) (n := 2) (Nat.le_of_ble_eq_true rfl)
  generalize (lg_sl ([.ref aK]) ++ List.replicate (2 - (lg_sl ([.ref aK])).length) Slot.unset).toArray = ls at hl ⊢
  have hl : lv_has ls 2 [(0, .ref aK)] := hl
  subst hsz
  have hD := hD0.self (sz := s.heap.size)
  generalize hAe : va_A [(aK, .inr (4, [.ref aH, .ref aU])), (aH, .inl (cJ, 20, .inr (.inl kK))), (aU, .inl (cZ, 2, .inl kU))] s.heap.size = Az at hD ⊢
  have hA : ∀ q : Nat, s.heap.size ≤ q → Az q := fun q h => by rw [← hAe]; exact Or.inr h
  have hS : va_S Az s.heap s.heap [] := va_S.rf
  generalize hQ : MQ below (sh_Qv D (sh_ty cI cJ cZ) Az [(aK, .inr (4, [.ref aH, .ref aU])), (aH, .inl (cJ, 20, .inr (.inl kK))), (aU, .inl (cZ, 2, .inl okU))]) args s 0 0 Az = Q
  unfold fX4_clear at h
  refine lv_iconst (v := 0) hx hb dX4_clear_0 (by decide) ?_
  refine lv_istore_n (lv' := [(1, .int 0), (0, .ref aK)]) hx hb dX4_clear_1 rfl hl (by decide) rfl (fun ls hl => ?_)
  have LP3 : ∀ (n : Nat) (x1 : Int32) (kU : Nat → Int32) (okU : (Nat → Int32)) (H : Heap) (locs : List Loc) (ls : Array Slot), fX4_clear_L2 n x1 kU = some okU → lv_has ls 2 [(0, .ref aK), (1, .int x1)] → va_P D vwCl [(aK, .inr (4, [.ref aH, .ref aU])), (aH, .inl (cJ, 20, .inr (.inl kK))), (aU, .inl (cZ, 2, .inl kU))] H → va_D Az [(aK, .inr (4, [.ref aH, .ref aU])), (aH, .inl (cJ, 20, .inr (.inl kK))), (aU, .inl (cZ, 2, .inl kU))] → va_S Az s.heap H locs → (∀ (H : Heap) (locs : List Loc) (ls : Array Slot), lv_has ls 2 [] → va_P D vwCl [(aK, .inr (4, [.ref aH, .ref aU])), (aH, .inl (cJ, 20, .inr (.inl kK))), (aU, .inl (cZ, 2, .inl okU))] H → va_D Az [(aK, .inr (4, [.ref aH, .ref aU])), (aH, .inl (cJ, 20, .inr (.inl kK))), (aU, .inl (cZ, 2, .inl okU))] → va_S Az s.heap H locs → W p l e (headSpec wsX4_clear rmX4_clear).room s m args below meth c H locs 0 0 Q (F0 m 24 ls [])) → W p l e (headSpec wsX4_clear rmX4_clear).room s m args below meth c H locs 0 0 Q (F0 m 2 ls []) := by
    intro n
    induction n with
    | zero =>
      intro x1 kU okU H locs ls h hl hP hD hS hk
      exact nomatch ((fX4_clear_L2_z x1 kU).symm.trans h)
    | succ n ih =>
      intro x1 kU okU H locs ls h hl hP hD hS hk
      rw [fX4_clear_L2_s] at h
      refine lv_iload_n hx hb dX4_clear_2 rfl (lv_at hl 1 rfl) ?_
      refine lv_aload_n hx hb dX4_clear_3 rfl (lv_at hl 0 rfl) ?_
      refine va_get (ci := 4) (v := .ref aU) (C := RX4) (T := TX4) (N := 2) hx hb hts hinX4 hown hK hP 0 rfl rfl 1 (by decide) lk1 (fun _ h9 => h9) rfl dX4_clear_4 ?_
      refine va_alen (v := 2) hx hb hK hP 2 2 rfl rfl rfl dX4_clear_7 ?_
      refine lv_icmp_ge (tgt := 24) hx hb dX4_clear_8 (by decide) (fun g1 => ?_) (fun g1 => ?_)
      · rw [if_pos g1] at h
        cases h
        exact hk _ _ ls (lv_sub hl [] rfl) hP hD hS
      · rw [if_neg g1] at h
        refine lv_aload_n hx hb dX4_clear_11 rfl (lv_at hl 0 rfl) ?_
        refine va_get (ci := 4) (v := .ref aU) (C := RX4) (T := TX4) (N := 2) hx hb hts hinX4 hown hK hP 0 rfl rfl 1 (by decide) lk1 (fun _ h9 => h9) rfl dX4_clear_12 ?_
        refine lv_iload_n hx hb dX4_clear_15 rfl (lv_at hl 1 rfl) ?_
        refine lv_iconst (v := 0) hx hb dX4_clear_16 (by decide) ?_
        obtain ⟨f2, hcf2, h⟩ := sh_b1_e h
        refine sh_zast (wn := [(aK, .inr (4, [.ref aH, .ref aU])), (aH, .inl (cJ, 20, .inr (.inl kK))), (aU, .inl (cZ, 2, .inl f2))]) hx hb hK hP hD hS 2 2 rfl rfl (sh_astZ_e hcf2) rfl dX4_clear_17 (fun H locs hP hD hS => ?_)
        refine lv_iinc (v := (x1 + 1)) (lv' := [(1, .int (x1 + 1)), (0, .ref aK)]) hx hb dX4_clear_18 hl (k := 1) rfl rfl (by decide) rfl (fun ls hl => ?_)
        refine lv_goto (tgt := 2) hx hb dX4_clear_21 (by decide) ?_
        exact ih (x1 + 1) f2 okU _ _ ls h (lv_sub hl [1, 0] rfl) hP hD hS hk
  obtain ⟨w4, hc5, h⟩ := sh_b1_e h
  refine LP3 sh_fu 0 kU w4 _ _ ls hc5 (lv_sub hl [1, 0] rfl) hP hD hS (fun H locs ls hl hP hD hS => ?_)
  cases h
  exact sh_rwv hx hb hr hlocks hQ hK hP hD hS dX4_clear_24
theorem hdV_X4_has : yX4_has.cls = RX4 ∧ yX4_has.cls ≠ "java/lang/invoke/MethodHandle" ∧ yX4_has.cls ≠ "java/lang/invoke/VarHandle" ∧ (parseMethodDescriptor yX4_has.desc).map (fun d => d.parameters.length) = some 1 := by decide +kernel
abbrev rmX4_has : Room := { frames := 0, cells := 0, slots := 0, locals := 0 }
set_option maxHeartbeats 4000000 in
set_option maxRecDepth 100000 in
theorem k_X4_has (l : Launch) (D : va_G) (cI cJ cZ : ClassId) (aK : Nat) (aH : Nat) (aU : Nat) (kK : Nat → Int64) (kU : Nat → Int32) (x1 : Int32) (o : Int32) (h : fX4_has x1 = some o) : Met l yX4_has wsX4_has rmX4_has (sh_Pr D (sh_ty cI cJ cZ) [(aK, .inr (4, [.ref aH, .ref aU])), (aH, .inl (cJ, 20, .inr (.inl kK))), (aU, .inl (cZ, 2, .inl kU))] [.ref aK, .int x1]) (vp_Si (fun z => z = o)) 0 0 (fun _ => False) := by
  refine Met.ofW (cc := cX4_has) (maxL := 2) (ret := (some .boolean)) (by decide) rfl ?_
  intro p e s m args below meth c s₁ hB hml hv
  obtain ⟨hargs, hP, hK⟩ := hv
  have hx := hB.exec
  have hb := hB.bytes
  have hr := hB.returns
  have hts := atoms_spec (ws := wsX4_has) hB.pre
  have hown : s.vm.findClass RX4 = some m.cls := findClass_of_methodNamed hB.named
  have hlocks := hB.notSynchronized
  have hfix : CallFix p m c cX4_has 2 s args wsX4_has RX4 := ⟨hx, hb, hml, hown, hts⟩
  have hinX4 : ∀ w ∈ wsX40, w ∈ wsX4_has := by decide +kernel
  have lk1 := hts (.fieldLink RX4 15 "ShadeTree$Slots" "used" "[Z") (by decide +kernel)
  rw [show entryFrame m args 2 = entryFrame m ([.ref aK, .int x1] : List Value).toArray 2 by rw [hargs], lg_entry_eq]
  have hl := lv_entry ([.ref aK, .int x1]) (n := 2) (Nat.le_of_ble_eq_true rfl)
  generalize (lg_sl ([.ref aK, .int x1]) ++ List.replicate (2 - (lg_sl ([.ref aK, .int x1])).length) Slot.unset).toArray = ls at hl ⊢
  have hl : lv_has ls 2 [(0, .ref aK), (1, .int x1)] := hl
  generalize hQ : MQ below (vp_Si (fun z => z = o)) args s 0 0 (fun _ => False) = Q
  unfold fX4_has at h
  refine lv_iload_n hx hb dX4_has_0 rfl (lv_at hl 1 rfl) ?_
  refine lv_if_lt (tgt := 17) hx hb dX4_has_1 (by decide) (fun g1 => ?_) (fun g1 => ?_)
  · rw [if_pos g1] at h
    refine lv_iconst (v := 0) hx hb dX4_has_17 (by decide) ?_
    exact sh_roz hx hb hr hlocks hQ ⟨rfl, (Option.some.inj h)⟩ dX4_has_18
  · rw [if_neg g1] at h
    refine lv_iload_n hx hb dX4_has_4 rfl (lv_at hl 1 rfl) ?_
    refine lv_aload_n hx hb dX4_has_5 rfl (lv_at hl 0 rfl) ?_
    refine va_get (ci := 4) (v := .ref aU) (C := RX4) (T := TX4) (N := 2) hx hb hts hinX4 hown hK hP 0 rfl rfl 1 (by decide) lk1 (fun _ h9 => h9) rfl dX4_has_6 ?_
    refine va_alen (v := 2) hx hb hK hP 2 2 rfl rfl rfl dX4_has_9 ?_
    refine lv_icmp_ge (tgt := 17) hx hb dX4_has_10 (by decide) (fun g2 => ?_) (fun g2 => ?_)
    · rw [if_pos g2] at h
      refine lv_iconst (v := 0) hx hb dX4_has_17 (by decide) ?_
      exact sh_roz hx hb hr hlocks hQ ⟨rfl, (Option.some.inj h)⟩ dX4_has_18
    · rw [if_neg g2] at h
      refine lv_iconst (v := 1) hx hb dX4_has_13 (by decide) ?_
      refine lv_goto (tgt := 18) hx hb dX4_has_14 (by decide) ?_
      exact sh_roz hx hb hr hlocks hQ ⟨rfl, (Option.some.inj h)⟩ dX4_has_18
theorem hdV_X4_put : yX4_put.cls = RX4 ∧ yX4_put.cls ≠ "java/lang/invoke/MethodHandle" ∧ yX4_put.cls ≠ "java/lang/invoke/VarHandle" ∧ (parseMethodDescriptor yX4_put.desc).map (fun d => d.parameters.length) = some 2 := by decide +kernel
abbrev rmX4_put : Room := { frames := 2, cells := 0, slots := 0, locals := 62 }
set_option maxHeartbeats 4000000 in
set_option maxRecDepth 100000 in
theorem k_X4_put (l : Launch) (D : va_G) (cI cJ cZ : ClassId) (sz : Nat) (aK : Nat) (aH : Nat) (aU : Nat) (aG : Nat) (aS : Nat) (aY : Nat) (kK : Nat → Int64) (kU : Nat → Int32) (sL : Nat → Int64) (x1 : Int32) (o : Int32) (okK : Nat → Int64) (okU : Nat → Int32) (h : fX4_put kK kU sL x1 = some (o, okK, okU)) : Met l yX4_put wsX4_put rmX4_put (sh_Pw D (sh_ty cI cJ cZ) sz [(aK, .inr (4, [.ref aH, .ref aU])), (aH, .inl (cJ, 20, .inr (.inl kK))), (aU, .inl (cZ, 2, .inl kU)), (aS, .inr (2, [.ref aG, .ref aY])), (aY, .inl (cJ, 10, .inr (.inl sL)))] [.ref aK, .int x1, .ref aS]) (sh_Qi D (sh_ty cI cJ cZ) (va_A [(aK, .inr (4, [.ref aH, .ref aU])), (aH, .inl (cJ, 20, .inr (.inl kK))), (aU, .inl (cZ, 2, .inl kU)), (aS, .inr (2, [.ref aG, .ref aY])), (aY, .inl (cJ, 10, .inr (.inl sL)))] sz) [(aK, .inr (4, [.ref aH, .ref aU])), (aH, .inl (cJ, 20, .inr (.inl okK))), (aU, .inl (cZ, 2, .inl okU)), (aS, .inr (2, [.ref aG, .ref aY])), (aY, .inl (cJ, 10, .inr (.inl sL)))] o) 0 0 (va_A [(aK, .inr (4, [.ref aH, .ref aU])), (aH, .inl (cJ, 20, .inr (.inl kK))), (aU, .inl (cZ, 2, .inl kU)), (aS, .inr (2, [.ref aG, .ref aY])), (aY, .inl (cJ, 10, .inr (.inl sL)))] sz) := by
  refine Met.ofW (cc := cX4_put) (maxL := 3) (ret := (some .boolean)) (by decide) rfl ?_
  intro p e s m args below meth c s₁ hB hml hv
  obtain ⟨hargs, hsz, hP, hK, hD0⟩ := hv
  have hx := hB.exec
  have hb := hB.bytes
  have hr := hB.returns
  have hts := atoms_spec (ws := wsX4_put) hB.pre
  have hown : s.vm.findClass RX4 = some m.cls := findClass_of_methodNamed hB.named
  have hlocks := hB.notSynchronized
  have hfix : CallFix p m c cX4_put 3 s args wsX4_put RX4 := ⟨hx, hb, hml, hown, hts⟩
  have hinX4 : ∀ w ∈ wsX40, w ∈ wsX4_put := by decide +kernel
  have lk1 := hts (.fieldLink RX4 15 "ShadeTree$Slots" "used" "[Z") (by decide +kernel)
  have lk2 := hts (.fieldLink RX4 11 "ShadeTree$Slots" "kept" "[J") (by decide +kernel)
  rw [show entryFrame m args 3 = entryFrame m ([.ref aK, .int x1, .ref aS] : List Value).toArray 3 by rw [hargs], lg_entry_eq]
  have hl := lv_entry ([.ref aK, .int x1, .ref aS]) (n := 3) (Nat.le_of_ble_eq_true rfl)
  generalize (lg_sl ([.ref aK, .int x1, .ref aS]) ++ List.replicate (3 - (lg_sl ([.ref aK, .int x1, .ref aS])).length) Slot.unset).toArray = ls at hl ⊢
  have hl : lv_has ls 3 [(0, .ref aK), (1, .int x1), (2, .ref aS)] := hl
  subst hsz
  have hD := hD0.self (sz := s.heap.size)
  generalize hAe : va_A [(aK, .inr (4, [.ref aH, .ref aU])), (aH, .inl (cJ, 20, .inr (.inl kK))), (aU, .inl (cZ, 2, .inl kU)), (aS, .inr (2, [.ref aG, .ref aY])), (aY, .inl (cJ, 10, .inr (.inl sL)))] s.heap.size = Az at hD ⊢
  have hA : ∀ q : Nat, s.heap.size ≤ q → Az q := fun q h => by rw [← hAe]; exact Or.inr h
  have hS : va_S Az s.heap s.heap [] := va_S.rf
  generalize hQ : MQ below (sh_Qi D (sh_ty cI cJ cZ) Az [(aK, .inr (4, [.ref aH, .ref aU])), (aH, .inl (cJ, 20, .inr (.inl okK))), (aU, .inl (cZ, 2, .inl okU)), (aS, .inr (2, [.ref aG, .ref aY])), (aY, .inl (cJ, 10, .inr (.inl sL)))] o) args s 0 0 Az = Q
  unfold fX4_put at h
  refine lv_aload_n hx hb dX4_put_0 rfl (lv_at hl 2 rfl) ?_
  refine lv_ifnull hx hb dX4_put_1 ?_
  refine lv_iload_n hx hb dX4_put_4 rfl (lv_at hl 1 rfl) ?_
  refine lv_if_lt (tgt := 17) hx hb dX4_put_5 (by decide) (fun g1 => ?_) (fun g1 => ?_)
  · rw [if_pos g1] at h
    refine lv_iconst (v := 0) hx hb dX4_put_17 (by decide) ?_
    cases h
    exact sh_rwz hx hb hr hlocks hQ rfl hK hP hD hS dX4_put_18
  · rw [if_neg g1] at h
    refine lv_iload_n hx hb dX4_put_8 rfl (lv_at hl 1 rfl) ?_
    refine lv_aload_n hx hb dX4_put_9 rfl (lv_at hl 0 rfl) ?_
    refine va_get (ci := 4) (v := .ref aU) (C := RX4) (T := TX4) (N := 2) hx hb hts hinX4 hown hK hP 0 rfl rfl 1 (by decide) lk1 (fun _ h9 => h9) rfl dX4_put_10 ?_
    refine va_alen (v := 2) hx hb hK hP 2 2 rfl rfl rfl dX4_put_13 ?_
    refine lv_icmp_lt (tgt := 19) hx hb dX4_put_14 (by decide) (fun g2 => ?_) (fun g2 => ?_)
    · rw [if_pos g2] at h
      refine lv_aload_n hx hb dX4_put_19 rfl (lv_at hl 2 rfl) ?_
      refine lv_aload_n hx hb dX4_put_20 rfl (lv_at hl 0 rfl) ?_
      refine va_get (ci := 4) (v := .ref aH) (C := RX4) (T := TX4) (N := 2) hx hb hts hinX4 hown hK hP 0 rfl rfl 0 (by decide) lk2 (fun _ h9 => h9) rfl dX4_put_21 ?_
      refine lv_iload_n hx hb dX4_put_24 rfl (lv_at hl 1 rfl) ?_
      refine lv_bipush (v := 10) hx hb dX4_put_25 (by decide) ?_
      refine lv_imul hx hb dX4_put_27 ?_
      obtain ⟨u3, hc4, h⟩ := sh_b1_e h
      refine sh_wVv (wn := [(aK, .inr (4, [.ref aH, .ref aU])), (aH, .inl (cJ, 20, .inr (.inl u3))), (aU, .inl (cZ, 2, .inl kU)), (aS, .inr (2, [.ref aG, .ref aY])), (aY, .inl (cJ, 10, .inr (.inl sL)))]) (As := [.ref aH, .int (x1 * 10)]) (rest := []) hfix (k_X2_store l D cI cJ cZ _ aG aS aY aH sL 20 kK (x1 * 10) u3 hc4) (cwV 2 hts gX4_put_X2_store rfl rfl rfl hdV_X2_store ⟨Nat.le_of_ble_eq_true rfl, Nat.le_of_ble_eq_true rfl⟩) hP hK hD hS hA [3, 4, 1] [0, 2] [0, 4, 1, 2, 3] rfl rfl rfl rfl rfl rfl rfl 3 rfl rfl rfl hl.1 rfl (Nat.le_of_ble_eq_true rfl) dX4_put_28 ⟨Nat.zero_le _, Nat.zero_le _⟩ (fun H locs hP hD hS => ?_)
      refine lv_aload_n hx hb dX4_put_31 rfl (lv_at hl 0 rfl) ?_
      refine va_get (ci := 4) (v := .ref aU) (C := RX4) (T := TX4) (N := 2) hx hb hts hinX4 hown hK hP 0 rfl rfl 1 (by decide) lk1 (fun _ h9 => h9) rfl dX4_put_32 ?_
      refine lv_iload_n hx hb dX4_put_35 rfl (lv_at hl 1 rfl) ?_
      refine lv_iconst (v := 1) hx hb dX4_put_36 (by decide) ?_
      obtain ⟨f5, hcf5, h⟩ := sh_b1_e h
      refine sh_zast (wn := [(aK, .inr (4, [.ref aH, .ref aU])), (aH, .inl (cJ, 20, .inr (.inl u3))), (aU, .inl (cZ, 2, .inl f5)), (aS, .inr (2, [.ref aG, .ref aY])), (aY, .inl (cJ, 10, .inr (.inl sL)))]) hx hb hK hP hD hS 2 2 rfl rfl (sh_astZ_e hcf5) rfl dX4_put_37 (fun H locs hP hD hS => ?_)
      refine lv_iconst (v := 1) hx hb dX4_put_38 (by decide) ?_
      cases h
      exact sh_rwz hx hb hr hlocks hQ rfl hK hP hD hS dX4_put_39
    · rw [if_neg g2] at h
      refine lv_iconst (v := 0) hx hb dX4_put_17 (by decide) ?_
      cases h
      exact sh_rwz hx hb hr hlocks hQ rfl hK hP hD hS dX4_put_18
theorem hdV_X4_bringBack : yX4_bringBack.cls = RX4 ∧ yX4_bringBack.cls ≠ "java/lang/invoke/MethodHandle" ∧ yX4_bringBack.cls ≠ "java/lang/invoke/VarHandle" ∧ (parseMethodDescriptor yX4_bringBack.desc).map (fun d => d.parameters.length) = some 2 := by decide +kernel
abbrev rmX4_bringBack : Room := { frames := 2, cells := 0, slots := 0, locals := 62 }
set_option maxHeartbeats 4000000 in
set_option maxRecDepth 100000 in
theorem k_X4_bringBack (l : Launch) (D : va_G) (cI cJ cZ : ClassId) (sz : Nat) (aK : Nat) (aH : Nat) (aU : Nat) (aG : Nat) (aS : Nat) (aY : Nat) (kK : Nat → Int64) (kU : Nat → Int32) (sL : Nat → Int64) (x1 : Int32) (o : Int32) (osL : Nat → Int64) (h : fX4_bringBack kK kU sL x1 = some (o, osL)) : Met l yX4_bringBack wsX4_bringBack rmX4_bringBack (sh_Pw D (sh_ty cI cJ cZ) sz [(aK, .inr (4, [.ref aH, .ref aU])), (aH, .inl (cJ, 20, .inr (.inl kK))), (aU, .inl (cZ, 2, .inl kU)), (aS, .inr (2, [.ref aG, .ref aY])), (aY, .inl (cJ, 10, .inr (.inl sL)))] [.ref aK, .int x1, .ref aS]) (sh_Qi D (sh_ty cI cJ cZ) (va_A [(aK, .inr (4, [.ref aH, .ref aU])), (aH, .inl (cJ, 20, .inr (.inl kK))), (aU, .inl (cZ, 2, .inl kU)), (aS, .inr (2, [.ref aG, .ref aY])), (aY, .inl (cJ, 10, .inr (.inl sL)))] sz) [(aK, .inr (4, [.ref aH, .ref aU])), (aH, .inl (cJ, 20, .inr (.inl kK))), (aU, .inl (cZ, 2, .inl kU)), (aS, .inr (2, [.ref aG, .ref aY])), (aY, .inl (cJ, 10, .inr (.inl osL)))] o) 0 0 (va_A [(aK, .inr (4, [.ref aH, .ref aU])), (aH, .inl (cJ, 20, .inr (.inl kK))), (aU, .inl (cZ, 2, .inl kU)), (aS, .inr (2, [.ref aG, .ref aY])), (aY, .inl (cJ, 10, .inr (.inl sL)))] sz) := by
  refine Met.ofW (cc := cX4_bringBack) (maxL := 3) (ret := (some .boolean)) (by decide) rfl ?_
  intro p e s m args below meth c s₁ hB hml hv
  obtain ⟨hargs, hsz, hP, hK, hD0⟩ := hv
  have hx := hB.exec
  have hb := hB.bytes
  have hr := hB.returns
  have hts := atoms_spec (ws := wsX4_bringBack) hB.pre
  have hown : s.vm.findClass RX4 = some m.cls := findClass_of_methodNamed hB.named
  have hlocks := hB.notSynchronized
  have hfix : CallFix p m c cX4_bringBack 3 s args wsX4_bringBack RX4 := ⟨hx, hb, hml, hown, hts⟩
  have hinX4 : ∀ w ∈ wsX40, w ∈ wsX4_bringBack := by decide +kernel
  have lk1 := hts (.fieldLink RX4 15 "ShadeTree$Slots" "used" "[Z") (by decide +kernel)
  have lk2 := hts (.fieldLink RX4 11 "ShadeTree$Slots" "kept" "[J") (by decide +kernel)
  rw [show entryFrame m args 3 = entryFrame m ([.ref aK, .int x1, .ref aS] : List Value).toArray 3 by rw [hargs], lg_entry_eq]
  have hl := lv_entry ([.ref aK, .int x1, .ref aS]) (n := 3) (Nat.le_of_ble_eq_true rfl)
  generalize (lg_sl ([.ref aK, .int x1, .ref aS]) ++ List.replicate (3 - (lg_sl ([.ref aK, .int x1, .ref aS])).length) Slot.unset).toArray = ls at hl ⊢
  have hl : lv_has ls 3 [(0, .ref aK), (1, .int x1), (2, .ref aS)] := hl
  subst hsz
  have hD := hD0.self (sz := s.heap.size)
  generalize hAe : va_A [(aK, .inr (4, [.ref aH, .ref aU])), (aH, .inl (cJ, 20, .inr (.inl kK))), (aU, .inl (cZ, 2, .inl kU)), (aS, .inr (2, [.ref aG, .ref aY])), (aY, .inl (cJ, 10, .inr (.inl sL)))] s.heap.size = Az at hD ⊢
  have hA : ∀ q : Nat, s.heap.size ≤ q → Az q := fun q h => by rw [← hAe]; exact Or.inr h
  have hS : va_S Az s.heap s.heap [] := va_S.rf
  generalize hQ : MQ below (sh_Qi D (sh_ty cI cJ cZ) Az [(aK, .inr (4, [.ref aH, .ref aU])), (aH, .inl (cJ, 20, .inr (.inl kK))), (aU, .inl (cZ, 2, .inl kU)), (aS, .inr (2, [.ref aG, .ref aY])), (aY, .inl (cJ, 10, .inr (.inl osL)))] o) args s 0 0 Az = Q
  unfold fX4_bringBack at h
  refine lv_aload_n hx hb dX4_bringBack_0 rfl (lv_at hl 2 rfl) ?_
  refine lv_ifnull hx hb dX4_bringBack_1 ?_
  refine lv_iload_n hx hb dX4_bringBack_4 rfl (lv_at hl 1 rfl) ?_
  refine lv_if_lt (tgt := 26) hx hb dX4_bringBack_5 (by decide) (fun g1 => ?_) (fun g1 => ?_)
  · rw [if_pos g1] at h
    refine lv_iconst (v := 0) hx hb dX4_bringBack_26 (by decide) ?_
    cases h
    exact sh_rwz hx hb hr hlocks hQ rfl hK hP hD hS dX4_bringBack_27
  · rw [if_neg g1] at h
    refine lv_iload_n hx hb dX4_bringBack_8 rfl (lv_at hl 1 rfl) ?_
    refine lv_aload_n hx hb dX4_bringBack_9 rfl (lv_at hl 0 rfl) ?_
    refine va_get (ci := 4) (v := .ref aU) (C := RX4) (T := TX4) (N := 2) hx hb hts hinX4 hown hK hP 0 rfl rfl 1 (by decide) lk1 (fun _ h9 => h9) rfl dX4_bringBack_10 ?_
    refine va_alen (v := 2) hx hb hK hP 2 2 rfl rfl rfl dX4_bringBack_13 ?_
    refine lv_icmp_ge (tgt := 26) hx hb dX4_bringBack_14 (by decide) (fun g2 => ?_) (fun g2 => ?_)
    · rw [if_pos g2] at h
      refine lv_iconst (v := 0) hx hb dX4_bringBack_26 (by decide) ?_
      cases h
      exact sh_rwz hx hb hr hlocks hQ rfl hK hP hD hS dX4_bringBack_27
    · rw [if_neg g2] at h
      refine lv_aload_n hx hb dX4_bringBack_17 rfl (lv_at hl 0 rfl) ?_
      refine va_get (ci := 4) (v := .ref aU) (C := RX4) (T := TX4) (N := 2) hx hb hts hinX4 hown hK hP 0 rfl rfl 1 (by decide) lk1 (fun _ h9 => h9) rfl dX4_bringBack_18 ?_
      refine lv_iload_n hx hb dX4_bringBack_21 rfl (lv_at hl 1 rfl) ?_
      obtain ⟨v3, hcv3, h⟩ := sh_b1_e h
      refine sh_zald hx hb hK hP 2 2 rfl rfl (sh_ald_e hcv3) dX4_bringBack_22 ?_
      refine lv_if_ne (tgt := 28) hx hb dX4_bringBack_23 (by decide) (fun g4 => ?_) (fun g4 => ?_)
      · rw [if_neg g4] at h
        refine lv_aload_n hx hb dX4_bringBack_28 rfl (lv_at hl 2 rfl) ?_
        refine lv_aload_n hx hb dX4_bringBack_29 rfl (lv_at hl 0 rfl) ?_
        refine va_get (ci := 4) (v := .ref aH) (C := RX4) (T := TX4) (N := 2) hx hb hts hinX4 hown hK hP 0 rfl rfl 0 (by decide) lk2 (fun _ h9 => h9) rfl dX4_bringBack_30 ?_
        refine lv_iload_n hx hb dX4_bringBack_33 rfl (lv_at hl 1 rfl) ?_
        refine lv_bipush (v := 10) hx hb dX4_bringBack_34 (by decide) ?_
        refine lv_imul hx hb dX4_bringBack_36 ?_
        obtain ⟨u5, hc6, h⟩ := sh_b1_e h
        refine sh_wVv (wn := [(aK, .inr (4, [.ref aH, .ref aU])), (aH, .inl (cJ, 20, .inr (.inl kK))), (aU, .inl (cZ, 2, .inl kU)), (aS, .inr (2, [.ref aG, .ref aY])), (aY, .inl (cJ, 10, .inr (.inl u5)))]) (As := [.ref aH, .int (x1 * 10)]) (rest := []) hfix (k_X2_load l D cI cJ cZ _ aG aS aY aH sL 20 kK (x1 * 10) u5 hc6) (cwV 2 hts gX4_bringBack_X2_load rfl rfl rfl hdV_X2_load ⟨Nat.le_of_ble_eq_true rfl, Nat.le_of_ble_eq_true rfl⟩) hP hK hD hS hA [3, 4, 1] [0, 2] [0, 4, 1, 2, 3] rfl rfl rfl rfl rfl rfl rfl 3 rfl rfl rfl hl.1 rfl (Nat.le_of_ble_eq_true rfl) dX4_bringBack_37 ⟨Nat.zero_le _, Nat.zero_le _⟩ (fun H locs hP hD hS => ?_)
        refine lv_iconst (v := 1) hx hb dX4_bringBack_40 (by decide) ?_
        cases h
        exact sh_rwz hx hb hr hlocks hQ rfl hK hP hD hS dX4_bringBack_41
      · rw [if_pos g4] at h
        refine lv_iconst (v := 0) hx hb dX4_bringBack_26 (by decide) ?_
        cases h
        exact sh_rwz hx hb hr hlocks hQ rfl hK hP hD hS dX4_bringBack_27
theorem hdV_X5_size : yX5_size.cls = RX5 ∧ yX5_size.cls ≠ "java/lang/invoke/MethodHandle" ∧ yX5_size.cls ≠ "java/lang/invoke/VarHandle" ∧ (parseMethodDescriptor yX5_size.desc).map (fun d => d.parameters.length) = some 0 := by decide +kernel
abbrev rmX5_size : Room := { frames := 0, cells := 0, slots := 0, locals := 0 }
set_option maxHeartbeats 4000000 in
set_option maxRecDepth 100000 in
theorem k_X5_size (l : Launch) (D : va_G) (cI cJ cZ : ClassId) (aX : Nat) (aE : Nat) (xL : Nat → Int32) (xz : Int32) (o : Int32) (h : fX5_size xz = some o) : Met l yX5_size wsX5_size rmX5_size (sh_Pr D (sh_ty cI cJ cZ) [(aX, .inr (5, [.ref aE, .int xz])), (aE, .inl (cI, 40, .inl xL))] [.ref aX]) (vp_Si (fun z => z = o)) 0 0 (fun _ => False) := by
  refine Met.ofW (cc := cX5_size) (maxL := 1) (ret := (some .int)) (by decide) rfl ?_
  intro p e s m args below meth c s₁ hB hml hv
  obtain ⟨hargs, hP, hK⟩ := hv
  have hx := hB.exec
  have hb := hB.bytes
  have hr := hB.returns
  have hts := atoms_spec (ws := wsX5_size) hB.pre
  have hown : s.vm.findClass RX5 = some m.cls := findClass_of_methodNamed hB.named
  have hlocks := hB.notSynchronized
  have hfix : CallFix p m c cX5_size 1 s args wsX5_size RX5 := ⟨hx, hb, hml, hown, hts⟩
  have hinX5 : ∀ w ∈ wsX50, w ∈ wsX5_size := by decide +kernel
  have lk1 := hts (.fieldLink RX5 15 "ShadeTree$Text" "size" "I") (by decide +kernel)
  rw [show entryFrame m args 1 = entryFrame m ([.ref aX] : List Value).toArray 1 by rw [hargs], lg_entry_eq]
  have hl := lv_entry ([.ref aX]) (n := 1) (Nat.le_of_ble_eq_true rfl)
  generalize (lg_sl ([.ref aX]) ++ List.replicate (1 - (lg_sl ([.ref aX])).length) Slot.unset).toArray = ls at hl ⊢
  have hl : lv_has ls 1 [(0, .ref aX)] := hl
  generalize hQ : MQ below (vp_Si (fun z => z = o)) args s 0 0 (fun _ => False) = Q
  unfold fX5_size at h
  refine lv_aload_n hx hb dX5_size_0 rfl (lv_at hl 0 rfl) ?_
  refine va_get (ci := 5) (v := .int xz) (C := RX5) (T := TX5) (N := 2) hx hb hts hinX5 hown hK hP 0 rfl rfl 1 (by decide) lk1 (fun _ h9 => h9) rfl dX5_size_1 ?_
  exact sh_roi hx hb hr hlocks hQ (Option.some.inj h) dX5_size_4
theorem hdV_X5_clear : yX5_clear.cls = RX5 ∧ yX5_clear.cls ≠ "java/lang/invoke/MethodHandle" ∧ yX5_clear.cls ≠ "java/lang/invoke/VarHandle" ∧ (parseMethodDescriptor yX5_clear.desc).map (fun d => d.parameters.length) = some 0 := by decide +kernel
abbrev rmX5_clear : Room := { frames := 0, cells := 0, slots := 0, locals := 0 }
set_option maxHeartbeats 4000000 in
set_option maxRecDepth 100000 in
theorem k_X5_clear (l : Launch) (D : va_G) (cI cJ cZ : ClassId) (sz : Nat) (aX : Nat) (aE : Nat) (xL : Nat → Int32) (xz : Int32) (oxz : Int32) (h : fX5_clear = some oxz) : Met l yX5_clear wsX5_clear rmX5_clear (sh_Pw D (sh_ty cI cJ cZ) sz [(aX, .inr (5, [.ref aE, .int xz])), (aE, .inl (cI, 40, .inl xL))] [.ref aX]) (sh_Qv D (sh_ty cI cJ cZ) (va_A [(aX, .inr (5, [.ref aE, .int xz])), (aE, .inl (cI, 40, .inl xL))] sz) [(aX, .inr (5, [.ref aE, .int oxz])), (aE, .inl (cI, 40, .inl xL))]) 0 0 (va_A [(aX, .inr (5, [.ref aE, .int xz])), (aE, .inl (cI, 40, .inl xL))] sz) := by
  refine Met.ofW (cc := cX5_clear) (maxL := 1) (ret := none) (by decide) rfl ?_
  intro p e s m args below meth c s₁ hB hml hv
  obtain ⟨hargs, hsz, hP, hK, hD0⟩ := hv
  have hx := hB.exec
  have hb := hB.bytes
  have hr := hB.returns
  have hts := atoms_spec (ws := wsX5_clear) hB.pre
  have hown : s.vm.findClass RX5 = some m.cls := findClass_of_methodNamed hB.named
  have hlocks := hB.notSynchronized
  have hfix : CallFix p m c cX5_clear 1 s args wsX5_clear RX5 := ⟨hx, hb, hml, hown, hts⟩
  have hinX5 : ∀ w ∈ wsX50, w ∈ wsX5_clear := by decide +kernel
  have lk1 := hts (.fieldLink RX5 15 "ShadeTree$Text" "size" "I") (by decide +kernel)
  rw [show entryFrame m args 1 = entryFrame m ([.ref aX] : List Value).toArray 1 by rw [hargs], lg_entry_eq]
  have hl := lv_entry ([.ref aX]) (n := 1) (Nat.le_of_ble_eq_true rfl)
  generalize (lg_sl ([.ref aX]) ++ List.replicate (1 - (lg_sl ([.ref aX])).length) Slot.unset).toArray = ls at hl ⊢
  have hl : lv_has ls 1 [(0, .ref aX)] := hl
  subst hsz
  have hD := hD0.self (sz := s.heap.size)
  generalize hAe : va_A [(aX, .inr (5, [.ref aE, .int xz])), (aE, .inl (cI, 40, .inl xL))] s.heap.size = Az at hD ⊢
  have hA : ∀ q : Nat, s.heap.size ≤ q → Az q := fun q h => by rw [← hAe]; exact Or.inr h
  have hS : va_S Az s.heap s.heap [] := va_S.rf
  generalize hQ : MQ below (sh_Qv D (sh_ty cI cJ cZ) Az [(aX, .inr (5, [.ref aE, .int oxz])), (aE, .inl (cI, 40, .inl xL))]) args s 0 0 Az = Q
  unfold fX5_clear at h
  refine lv_aload_n hx hb dX5_clear_0 rfl (lv_at hl 0 rfl) ?_
  refine lv_iconst (v := 0) hx hb dX5_clear_1 (by decide) ?_
  refine sh_put (wn := [(aX, .inr (5, [.ref aE, .int 0])), (aE, .inl (cI, 40, .inl xL))]) (ci := 5) (v := .int 0) (ty := .int) (C := RX5) (T := TX5) (N := 2) hx hb hts hinX5 tyX5 tyX5_ok nmX5 hown hK hP hD hS 0 rfl rfl 1 (by decide) lk1 (fun _ h9 => h9) rfl (by decide +kernel) rfl rfl (Nat.le_of_ble_eq_true rfl) rfl dX5_clear_2 (fun H locs hP hD hS => ?_)
  cases h
  exact sh_rwv hx hb hr hlocks hQ hK hP hD hS dX5_clear_5
theorem hdV_X5_add : yX5_add.cls = RX5 ∧ yX5_add.cls ≠ "java/lang/invoke/MethodHandle" ∧ yX5_add.cls ≠ "java/lang/invoke/VarHandle" ∧ (parseMethodDescriptor yX5_add.desc).map (fun d => d.parameters.length) = some 1 := by decide +kernel
abbrev rmX5_add : Room := { frames := 0, cells := 0, slots := 0, locals := 0 }
set_option maxHeartbeats 4000000 in
set_option maxRecDepth 100000 in
theorem k_X5_add (l : Launch) (D : va_G) (cI cJ cZ : ClassId) (sz : Nat) (aX : Nat) (aE : Nat) (xL : Nat → Int32) (xz : Int32) (x1 : Int32) (o : Int32) (oxL : Nat → Int32) (oxz : Int32) (h : fX5_add xL xz x1 = some (o, oxL, oxz)) : Met l yX5_add wsX5_add rmX5_add (sh_Pw D (sh_ty cI cJ cZ) sz [(aX, .inr (5, [.ref aE, .int xz])), (aE, .inl (cI, 40, .inl xL))] [.ref aX, .int x1]) (sh_Qi D (sh_ty cI cJ cZ) (va_A [(aX, .inr (5, [.ref aE, .int xz])), (aE, .inl (cI, 40, .inl xL))] sz) [(aX, .inr (5, [.ref aE, .int oxz])), (aE, .inl (cI, 40, .inl oxL))] o) 0 0 (va_A [(aX, .inr (5, [.ref aE, .int xz])), (aE, .inl (cI, 40, .inl xL))] sz) := by
  refine Met.ofW (cc := cX5_add) (maxL := 2) (ret := (some .boolean)) (by decide) rfl ?_
  intro p e s m args below meth c s₁ hB hml hv
  obtain ⟨hargs, hsz, hP, hK, hD0⟩ := hv
  have hx := hB.exec
  have hb := hB.bytes
  have hr := hB.returns
  have hts := atoms_spec (ws := wsX5_add) hB.pre
  have hown : s.vm.findClass RX5 = some m.cls := findClass_of_methodNamed hB.named
  have hlocks := hB.notSynchronized
  have hfix : CallFix p m c cX5_add 2 s args wsX5_add RX5 := ⟨hx, hb, hml, hown, hts⟩
  have hinX5 : ∀ w ∈ wsX50, w ∈ wsX5_add := by decide +kernel
  have lk1 := hts (.fieldLink RX5 15 "ShadeTree$Text" "size" "I") (by decide +kernel)
  have lk2 := hts (.fieldLink RX5 11 "ShadeTree$Text" "letters" "[I") (by decide +kernel)
  rw [show entryFrame m args 2 = entryFrame m ([.ref aX, .int x1] : List Value).toArray 2 by rw [hargs], lg_entry_eq]
  have hl := lv_entry ([.ref aX, .int x1]) (n := 2) (Nat.le_of_ble_eq_true rfl)
  generalize (lg_sl ([.ref aX, .int x1]) ++ List.replicate (2 - (lg_sl ([.ref aX, .int x1])).length) Slot.unset).toArray = ls at hl ⊢
  have hl : lv_has ls 2 [(0, .ref aX), (1, .int x1)] := hl
  subst hsz
  have hD := hD0.self (sz := s.heap.size)
  generalize hAe : va_A [(aX, .inr (5, [.ref aE, .int xz])), (aE, .inl (cI, 40, .inl xL))] s.heap.size = Az at hD ⊢
  have hA : ∀ q : Nat, s.heap.size ≤ q → Az q := fun q h => by rw [← hAe]; exact Or.inr h
  have hS : va_S Az s.heap s.heap [] := va_S.rf
  generalize hQ : MQ below (sh_Qi D (sh_ty cI cJ cZ) Az [(aX, .inr (5, [.ref aE, .int oxz])), (aE, .inl (cI, 40, .inl oxL))] o) args s 0 0 Az = Q
  unfold fX5_add at h
  refine lv_aload_n hx hb dX5_add_0 rfl (lv_at hl 0 rfl) ?_
  refine va_get (ci := 5) (v := .int xz) (C := RX5) (T := TX5) (N := 2) hx hb hts hinX5 hown hK hP 0 rfl rfl 1 (by decide) lk1 (fun _ h9 => h9) rfl dX5_add_1 ?_
  refine lv_if_lt (tgt := 19) hx hb dX5_add_4 (by decide) (fun g1 => ?_) (fun g1 => ?_)
  · rw [if_pos g1] at h
    refine lv_iconst (v := 0) hx hb dX5_add_19 (by decide) ?_
    cases h
    exact sh_rwz hx hb hr hlocks hQ rfl hK hP hD hS dX5_add_20
  · rw [if_neg g1] at h
    refine lv_aload_n hx hb dX5_add_7 rfl (lv_at hl 0 rfl) ?_
    refine va_get (ci := 5) (v := .int xz) (C := RX5) (T := TX5) (N := 2) hx hb hts hinX5 hown hK hP 0 rfl rfl 1 (by decide) lk1 (fun _ h9 => h9) rfl dX5_add_8 ?_
    refine lv_aload_n hx hb dX5_add_11 rfl (lv_at hl 0 rfl) ?_
    refine va_get (ci := 5) (v := .ref aE) (C := RX5) (T := TX5) (N := 2) hx hb hts hinX5 hown hK hP 0 rfl rfl 0 (by decide) lk2 (fun _ h9 => h9) rfl dX5_add_12 ?_
    refine va_alen (v := 40) hx hb hK hP 1 0 rfl rfl rfl dX5_add_15 ?_
    refine lv_icmp_lt (tgt := 21) hx hb dX5_add_16 (by decide) (fun g2 => ?_) (fun g2 => ?_)
    · rw [if_pos g2] at h
      refine lv_aload_n hx hb dX5_add_21 rfl (lv_at hl 0 rfl) ?_
      refine va_get (ci := 5) (v := .ref aE) (C := RX5) (T := TX5) (N := 2) hx hb hts hinX5 hown hK hP 0 rfl rfl 0 (by decide) lk2 (fun _ h9 => h9) rfl dX5_add_22 ?_
      refine lv_aload_n hx hb dX5_add_25 rfl (lv_at hl 0 rfl) ?_
      refine va_get (ci := 5) (v := .int xz) (C := RX5) (T := TX5) (N := 2) hx hb hts hinX5 hown hK hP 0 rfl rfl 1 (by decide) lk1 (fun _ h9 => h9) rfl dX5_add_26 ?_
      refine lv_iload_n hx hb dX5_add_29 rfl (lv_at hl 1 rfl) ?_
      obtain ⟨f3, hcf3, h⟩ := sh_b1_e h
      refine sh_iast (wn := [(aX, .inr (5, [.ref aE, .int xz])), (aE, .inl (cI, 40, .inl f3))]) hx hb hK hP hD hS 1 0 rfl rfl (sh_ast_e hcf3) rfl dX5_add_30 (fun H locs hP hD hS => ?_)
      refine lv_aload_n hx hb dX5_add_31 rfl (lv_at hl 0 rfl) ?_
      refine lv_dup hx hb dX5_add_32 rfl ?_
      refine va_get (ci := 5) (v := .int xz) (C := RX5) (T := TX5) (N := 2) hx hb hts hinX5 hown hK hP 0 rfl rfl 1 (by decide) lk1 (fun _ h9 => h9) rfl dX5_add_33 ?_
      refine lv_iconst (v := 1) hx hb dX5_add_36 (by decide) ?_
      refine lv_iadd hx hb dX5_add_37 ?_
      refine sh_put (wn := [(aX, .inr (5, [.ref aE, .int (xz + 1)])), (aE, .inl (cI, 40, .inl f3))]) (ci := 5) (v := .int (xz + 1)) (ty := .int) (C := RX5) (T := TX5) (N := 2) hx hb hts hinX5 tyX5 tyX5_ok nmX5 hown hK hP hD hS 0 rfl rfl 1 (by decide) lk1 (fun _ h9 => h9) rfl (by decide +kernel) rfl rfl (Nat.le_of_ble_eq_true rfl) rfl dX5_add_38 (fun H locs hP hD hS => ?_)
      refine lv_iconst (v := 1) hx hb dX5_add_41 (by decide) ?_
      cases h
      exact sh_rwz hx hb hr hlocks hQ rfl hK hP hD hS dX5_add_42
    · rw [if_neg g2] at h
      refine lv_iconst (v := 0) hx hb dX5_add_19 (by decide) ?_
      cases h
      exact sh_rwz hx hb hr hlocks hQ rfl hK hP hD hS dX5_add_20
theorem hdV_X5_figure : yX5_figure.cls = RX5 ∧ yX5_figure.cls ≠ "java/lang/invoke/MethodHandle" ∧ yX5_figure.cls ≠ "java/lang/invoke/VarHandle" ∧ (parseMethodDescriptor yX5_figure.desc).map (fun d => d.parameters.length) = some 1 := by decide +kernel
abbrev rmX5_figure : Room := { frames := 0, cells := 0, slots := 0, locals := 0 }
set_option maxHeartbeats 4000000 in
set_option maxRecDepth 100000 in
theorem k_X5_figure (l : Launch) (D : va_G) (cI cJ cZ : ClassId) (aX : Nat) (aE : Nat) (xL : Nat → Int32) (xz : Int32) (x1 : Int32) (o : Int32) (h : fX5_figure xL x1 = some o) : Met l yX5_figure wsX5_figure rmX5_figure (sh_Pr D (sh_ty cI cJ cZ) [(aX, .inr (5, [.ref aE, .int xz])), (aE, .inl (cI, 40, .inl xL))] [.ref aX, .int x1]) (vp_Si (fun z => z = o)) 0 0 (fun _ => False) := by
  refine Met.ofW (cc := cX5_figure) (maxL := 2) (ret := (some .int)) (by decide) rfl ?_
  intro p e s m args below meth c s₁ hB hml hv
  obtain ⟨hargs, hP, hK⟩ := hv
  have hx := hB.exec
  have hb := hB.bytes
  have hr := hB.returns
  have hts := atoms_spec (ws := wsX5_figure) hB.pre
  have hown : s.vm.findClass RX5 = some m.cls := findClass_of_methodNamed hB.named
  have hlocks := hB.notSynchronized
  have hfix : CallFix p m c cX5_figure 2 s args wsX5_figure RX5 := ⟨hx, hb, hml, hown, hts⟩
  have hinX5 : ∀ w ∈ wsX50, w ∈ wsX5_figure := by decide +kernel
  have lk1 := hts (.fieldLink RX5 11 "ShadeTree$Text" "letters" "[I") (by decide +kernel)
  rw [show entryFrame m args 2 = entryFrame m ([.ref aX, .int x1] : List Value).toArray 2 by rw [hargs], lg_entry_eq]
  have hl := lv_entry ([.ref aX, .int x1]) (n := 2) (Nat.le_of_ble_eq_true rfl)
  generalize (lg_sl ([.ref aX, .int x1]) ++ List.replicate (2 - (lg_sl ([.ref aX, .int x1])).length) Slot.unset).toArray = ls at hl ⊢
  have hl : lv_has ls 2 [(0, .ref aX), (1, .int x1)] := hl
  generalize hQ : MQ below (vp_Si (fun z => z = o)) args s 0 0 (fun _ => False) = Q
  unfold fX5_figure at h
  refine lv_iload_n hx hb dX5_figure_0 rfl (lv_at hl 1 rfl) ?_
  refine lv_if_lt (tgt := 25) hx hb dX5_figure_1 (by decide) (fun g1 => ?_) (fun g1 => ?_)
  · rw [if_pos g1] at h
    refine lv_iconst (v := 0) hx hb dX5_figure_25 (by decide) ?_
    exact sh_roi hx hb hr hlocks hQ (Option.some.inj h) dX5_figure_26
  · rw [if_neg g1] at h
    refine lv_iload_n hx hb dX5_figure_4 rfl (lv_at hl 1 rfl) ?_
    refine lv_aload_n hx hb dX5_figure_5 rfl (lv_at hl 0 rfl) ?_
    refine va_get (ci := 5) (v := .ref aE) (C := RX5) (T := TX5) (N := 2) hx hb hts hinX5 hown hK hP 0 rfl rfl 0 (by decide) lk1 (fun _ h9 => h9) rfl dX5_figure_6 ?_
    refine va_alen (v := 40) hx hb hK hP 1 0 rfl rfl rfl dX5_figure_9 ?_
    refine lv_icmp_ge (tgt := 25) hx hb dX5_figure_10 (by decide) (fun g2 => ?_) (fun g2 => ?_)
    · rw [if_pos g2] at h
      refine lv_iconst (v := 0) hx hb dX5_figure_25 (by decide) ?_
      exact sh_roi hx hb hr hlocks hQ (Option.some.inj h) dX5_figure_26
    · rw [if_neg g2] at h
      refine lv_aload_n hx hb dX5_figure_13 rfl (lv_at hl 0 rfl) ?_
      refine va_get (ci := 5) (v := .ref aE) (C := RX5) (T := TX5) (N := 2) hx hb hts hinX5 hown hK hP 0 rfl rfl 0 (by decide) lk1 (fun _ h9 => h9) rfl dX5_figure_14 ?_
      refine lv_iload_n hx hb dX5_figure_17 rfl (lv_at hl 1 rfl) ?_
      obtain ⟨v3, hcv3, h⟩ := sh_b1_e h
      refine sh_iald hx hb hK hP 1 0 rfl rfl (sh_ald_e hcv3) dX5_figure_18 ?_
      refine lv_bipush (v := 48) hx hb dX5_figure_19 (by decide) ?_
      refine lv_isub hx hb dX5_figure_21 ?_
      refine lv_goto (tgt := 26) hx hb dX5_figure_22 (by decide) ?_
      exact sh_roi hx hb hr hlocks hQ (Option.some.inj h) dX5_figure_26
theorem hdV_X5_wholeSize : yX5_wholeSize.cls = RX5 ∧ yX5_wholeSize.cls ≠ "java/lang/invoke/MethodHandle" ∧ yX5_wholeSize.cls ≠ "java/lang/invoke/VarHandle" ∧ (parseMethodDescriptor yX5_wholeSize.desc).map (fun d => d.parameters.length) = some 0 := by decide +kernel
abbrev rmX5_wholeSize : Room := { frames := 1, cells := 0, slots := 0, locals := 21 }
set_option maxHeartbeats 4000000 in
set_option maxRecDepth 100000 in
theorem k_X5_wholeSize (l : Launch) (D : va_G) (cI cJ cZ : ClassId) (aX : Nat) (aE : Nat) (xL : Nat → Int32) (xz : Int32) (o : Int32) (h : fX5_wholeSize xL = some o) : Met l yX5_wholeSize wsX5_wholeSize rmX5_wholeSize (sh_Pr D (sh_ty cI cJ cZ) [(aX, .inr (5, [.ref aE, .int xz])), (aE, .inl (cI, 40, .inl xL))] [.ref aX]) (vp_Si (fun z => z = o)) 0 0 (fun _ => False) := by
  refine Met.ofW (cc := cX5_wholeSize) (maxL := 1) (ret := (some .int)) (by decide) rfl ?_
  intro p e s m args below meth c s₁ hB hml hv
  obtain ⟨hargs, hP, hK⟩ := hv
  have hx := hB.exec
  have hb := hB.bytes
  have hr := hB.returns
  have hts := atoms_spec (ws := wsX5_wholeSize) hB.pre
  have hown : s.vm.findClass RX5 = some m.cls := findClass_of_methodNamed hB.named
  have hlocks := hB.notSynchronized
  have hfix : CallFix p m c cX5_wholeSize 1 s args wsX5_wholeSize RX5 := ⟨hx, hb, hml, hown, hts⟩
  rw [show entryFrame m args 1 = entryFrame m ([.ref aX] : List Value).toArray 1 by rw [hargs], lg_entry_eq]
  have hl := lv_entry ([.ref aX]) (n := 1) (Nat.le_of_ble_eq_true rfl)
  generalize (lg_sl ([.ref aX]) ++ List.replicate (1 - (lg_sl ([.ref aX])).length) Slot.unset).toArray = ls at hl ⊢
  have hl : lv_has ls 1 [(0, .ref aX)] := hl
  generalize hQ : MQ below (vp_Si (fun z => z = o)) args s 0 0 (fun _ => False) = Q
  unfold fX5_wholeSize at h
  refine lv_iconst (v := 4) hx hb dX5_wholeSize_0 (by decide) ?_
  refine lv_aload_n hx hb dX5_wholeSize_1 rfl (lv_at hl 0 rfl) ?_
  refine lv_iconst (v := 2) hx hb dX5_wholeSize_2 (by decide) ?_
  obtain ⟨v1, hc2, h⟩ := sh_b1_e h
  refine sh_cVi (As := [.int 2]) (rest := [.int 4]) hfix (k_X5_figure l D cI cJ cZ aX aE xL xz 2 v1 hc2) (cwV 1 hts gX5_wholeSize_X5_figure rfl rfl rfl hdV_X5_figure ⟨Nat.le_of_ble_eq_true rfl, Nat.le_of_ble_eq_true rfl⟩) hP hK [0, 1] rfl 0 rfl rfl rfl hl.1 rfl (Nat.le_of_ble_eq_true rfl) dX5_wholeSize_3 ⟨Nat.zero_le _, Nat.zero_le _⟩ ?_
  refine lv_aload_n hx hb dX5_wholeSize_6 rfl (lv_at hl 0 rfl) ?_
  refine lv_iconst (v := 3) hx hb dX5_wholeSize_7 (by decide) ?_
  obtain ⟨v3, hc4, h⟩ := sh_b1_e h
  refine sh_cVi (As := [.int 3]) (rest := [.int v1, .int 4]) hfix (k_X5_figure l D cI cJ cZ aX aE xL xz 3 v3 hc4) (cwV 1 hts gX5_wholeSize_X5_figure rfl rfl rfl hdV_X5_figure ⟨Nat.le_of_ble_eq_true rfl, Nat.le_of_ble_eq_true rfl⟩) hP hK [0, 1] rfl 0 rfl rfl rfl hl.1 rfl (Nat.le_of_ble_eq_true rfl) dX5_wholeSize_8 ⟨Nat.zero_le _, Nat.zero_le _⟩ ?_
  refine lv_imul hx hb dX5_wholeSize_11 ?_
  refine lv_iadd hx hb dX5_wholeSize_12 ?_
  exact sh_roi hx hb hr hlocks hQ (Option.some.inj h) dX5_wholeSize_13
theorem hdS_X7_isShade : yX7_isShade.cls ≠ "java/lang/invoke/MethodHandle" ∧ yX7_isShade.cls ≠ "java/lang/invoke/VarHandle" ∧ (parseMethodDescriptor yX7_isShade.desc).map (fun d => d.parameters.length) = some 1 := by decide +kernel
abbrev rmX7_isShade : Room := { frames := 0, cells := 0, slots := 0, locals := 0 }
set_option maxHeartbeats 4000000 in
set_option maxRecDepth 100000 in
theorem k_X7_isShade (l : Launch) (D : va_G) (cI cJ cZ : ClassId) (x0 : Int32) (o : Int32) (h : fX7_isShade x0 = some o) : Met l yX7_isShade wsX7_isShade rmX7_isShade (sh_Pr D (sh_ty cI cJ cZ) [] [.int x0]) (vp_Si (fun z => z = o)) 0 0 (fun _ => False) := by
  refine Met.ofW (cc := cX7_isShade) (maxL := 1) (ret := (some .boolean)) (by decide) rfl ?_
  intro p e s m args below meth c s₁ hB hml hv
  obtain ⟨hargs, hP, hK⟩ := hv
  have hx := hB.exec
  have hb := hB.bytes
  have hr := hB.returns
  have hts := atoms_spec (ws := wsX7_isShade) hB.pre
  have hown : s.vm.findClass RX7 = some m.cls := findClass_of_methodNamed hB.named
  have hlocks := hB.notSynchronized
  have hfix : CallFix p m c cX7_isShade 1 s args wsX7_isShade RX7 := ⟨hx, hb, hml, hown, hts⟩
  rw [show entryFrame m args 1 = entryFrame m ([.int x0] : List Value).toArray 1 by rw [hargs], lg_entry_eq]
  have hl := lv_entry ([.int x0]) (n := 1) (Nat.le_of_ble_eq_true rfl)
  generalize (lg_sl ([.int x0]) ++ List.replicate (1 - (lg_sl ([.int x0])).length) Slot.unset).toArray = ls at hl ⊢
  have hl : lv_has ls 1 [(0, .int x0)] := hl
  generalize hQ : MQ below (vp_Si (fun z => z = o)) args s 0 0 (fun _ => False) = Q
  unfold fX7_isShade at h
  refine lv_iload_n hx hb dX7_isShade_0 rfl (lv_at hl 0 rfl) ?_
  refine lv_if_lt (tgt := 14) hx hb dX7_isShade_1 (by decide) (fun g1 => ?_) (fun g1 => ?_)
  · rw [if_pos g1] at h
    refine lv_iconst (v := 0) hx hb dX7_isShade_14 (by decide) ?_
    exact sh_roz hx hb hr hlocks hQ ⟨rfl, (Option.some.inj h)⟩ dX7_isShade_15
  · rw [if_neg g1] at h
    refine lv_iload_n hx hb dX7_isShade_4 rfl (lv_at hl 0 rfl) ?_
    refine lv_bipush (v := 9) hx hb dX7_isShade_5 (by decide) ?_
    refine lv_icmp_gt (tgt := 14) hx hb dX7_isShade_7 (by decide) (fun g2 => ?_) (fun g2 => ?_)
    · rw [if_pos g2] at h
      refine lv_iconst (v := 0) hx hb dX7_isShade_14 (by decide) ?_
      exact sh_roz hx hb hr hlocks hQ ⟨rfl, (Option.some.inj h)⟩ dX7_isShade_15
    · rw [if_neg g2] at h
      refine lv_iconst (v := 1) hx hb dX7_isShade_10 (by decide) ?_
      refine lv_goto (tgt := 15) hx hb dX7_isShade_11 (by decide) ?_
      exact sh_roz hx hb hr hlocks hQ ⟨rfl, (Option.some.inj h)⟩ dX7_isShade_15
